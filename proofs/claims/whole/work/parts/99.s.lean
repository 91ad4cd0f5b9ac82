/-! THE CLAIM OUT OF ONE WALK OF THE LAW'S BODY. Your part is whole_start (and what it stands on); all else here is the same for every law, but numbers. -/
def R_law : String := "TideDeskLaw"
def lw_P (b : Addr) (xs : List Int32) (args : Array Value) (s : State) : Prop := args = #[.ref b] ∧ s.IntsAt b xs ∧ xs.length ≤ 3584 ∧ (Jvm.Cond.and given_1 narrow_1).before args s = true
/-- what a walk over the start with the record d0 says of its end, said of the start itself -/
theorem lw_closed {s t : State} {o : Outcome} {d0 : Drawn} {L : List Loc} {k n : Nat} (hd0 : s.drawn.sameBut d0 lw_cs) (hv : ∃ v, o = .returned v) (hW : (s.setDrawn d0).WarmedH t.vm) (hs : (s.setDrawn d0).sameButNew ({ t with vm := s.vm } : State) L k n) : State.butDraws s t lw_cs (fun t1 => Framed s o t1 L k n) := by
  have h2 : t.drawn = d0 := congrArg State.drawn hs.1
  refine ⟨⟨hv, hW, State.sameButNew.setDrawn hs s.drawn⟩, ?_, by decide⟩
  rw [h2]
  exact hd0
def lw_Q (_ : Array Value) (s : State) (o : Outcome) (t : State) : Prop := o = .returned (some (.int 1)) ∧ State.butDraws s t lw_cs (fun t1 => Framed s o t1 [] 600000 7302250)
def lw_Z (below : List Frame) (a : Array Value) (s : State) : State → Prop := fun t => ∃ o, t.status = .running ∧ Ended t below o ∧ lw_Q a s o t
/-- the law's own end, with 1 on the stack, nothing written that was there before, its room as the claim has it; d0: the record of draws at this point (at the entry s.drawn: begin with 'refine W.base ?_' and 'have hd0 := Drawn.sameBut.refl s.drawn lw_cs') -/
theorem lw_ret {p : Program} {l : Launch} {e : Env} {s : State} {m : MethodId} {below : List Frame} {meth : Method} {c : Code} {b : Nat} {d0 : Drawn} (hd0 : s.drawn.sameBut d0 lw_cs) (hx : p.tables.exec = Jvm.exec) (hb : c.code = code) (hr : meth.sig.returnType = ret) (hlocks : meth.locks = false) {pc : Nat} {H : Heap} {ls : Array Slot} (hdg : decode code pc = .ok (.ireturn, 1)) : W p l e room_1 (s.setDrawn d0) m #[Value.ref b] below meth c H [] 600000 7302250 (lw_Z below #[Value.ref b] s) (F0 m pc ls [.int 1]) := by
  intro T hT X
  obtain ⟨fs, hret, hrun, hended, hW, hframe⟩ := X.leave (v := some (.int 1)) (hlocks := hlocks) (fun h => by rw [hr] at h; cases h)
  have hmeth' : T.vm.method? m = some meth := X.method'
  refine ⟨T.setFrames fs, ?_, .returned (some (.int 1)), hrun, hended, rfl, lw_closed hd0 ⟨_, rfl⟩ hW hframe⟩
  jvm_step X.here [X.here.top, hx, hb, hdg, hmeth', hr, ret, narrow_b1]
  (try refine ⟨rfl, ?_⟩); (try refine ⟨rfl, ?_⟩)
  first | (intro acts; rw [hret _ acts rfl rfl rfl]) | rw [hret _ _ rfl rfl rfl]
  exact Steps.refl _
/-- what holds at the law's entry: the machine, the code, the tables' words (any of lw_tbl by 'hts w (by decide +kernel)'), the script of L ints xs at the cell b, what the Statement gives of the start (any of its parts by flat_of_before) -/
def lw_At (p : Program) (s : State) (m : MethodId) (meth : Method) (c : Code) (b L : Nat) (xs : Nat → Int32) : Prop :=
  p.tables.exec = Jvm.exec ∧ c.code = code ∧ meth.sig.returnType = ret ∧ c.maxLocals = 4 ∧ s.vm.findClass R_law = some m.cls ∧ (∀ w ∈ lw_tbl, w.before #[Value.ref b] s = true) ∧ va_X b L xs s s.heap ∧ b < s.heap.size ∧ meth.locks = false ∧ (Jvm.Cond.and given_1 narrow_1).before #[Value.ref b] s = true
section SLM
variable {p : Program} {l : Launch} {e : Env} {R : Room} {s : State} {m : MethodId} {args : Array Value} {below : List Frame} {meth : Method} {c : Code} {cells slots : Nat} {Q : State → Prop}
variable {ad : Nat → Nat} {dA : Nat → ClassId} {G : va_G} {A : Nat → Prop} {H0 : Heap}
/-- the machine at a place of the law, whatever has been drawn -/
def LK (p : Program) (l : Launch) (e : Env) (R : Room) (s : State) (m : MethodId) (args : Array Value) (below : List Frame) (meth : Method) (c : Code) (cells slots : Nat) (Q : State → Prop) (ad : Nat → Nat) (dA : Nat → ClassId) (G : va_G) (A : Nat → Prop) (H0 : Heap) : Kt := fun t lv st I D =>
  ∀ d0, s.drawn.sameBut d0 lw_cs → AtM p l e R (s.setDrawn d0) m args below meth c cells slots Q ad dA G A SHc H0 4 t lv st I D
theorem cl_goD {d0 : Drawn} (hd0 : s.drawn.sameBut d0 lw_cs) {SH : List Sh} {pc : Nat} {H : Heap} {locs : List Loc} {ls : Array Slot} {st0 rest : List Value} {Post : Po} {av : Array Value} (hr : va_RunD lw_cs p l e R (s.setDrawn d0) m args below meth c H locs cells slots 0 0 (F0 m pc ls st0) rest (QcM (l, ad, dA, G, A) SH Post av) A) (hS : va_S A H0 H locs)
    (kk : ∀ d1, s.drawn.sameBut d1 lw_cs → ∀ r I' D' H1 locs1, Post r I' D' → va_P G vwCl (wld ad dA I' D' 0 SH) H1 → va_S A H0 H1 locs1 → W p l e R (s.setDrawn d1) m args below meth c H1 locs1 cells slots Q (F0 m (pc + 3) ls ((r.map (cv ad)).toList ++ rest))) : W p l e R (s.setDrawn d0) m args below meth c H locs cells slots Q (F0 m pc ls st0) := by
  intro T hT X
  obtain ⟨v, st₀, t, T', L, d', hd', h0, X', hL, e1, e2, ⟨⟨r, I', D', hv, hp, hb⟩, hz, hk⟩, st⟩ := hr T hT X
  cases hv
  rw [h0] at hz hk
  obtain ⟨t2, a1, b1⟩ := kk d' (hd0.trans hd') r I' D' T'.heap (locs ++ L) hp (by rw [e1]; exact hb)
    ⟨Nat.le_trans hS.1 (by rw [e1]; exact hz), fun q h1 h2 => by rw [e1, hk q (Nat.lt_of_lt_of_le h1 hS.1) h2]; exact hS.2.1 q h1 h2, fun q hq => by
      rcases List.mem_append.mp hq with h | h
      · exact hS.2.2 q h
      · exact hL q h⟩ T' rfl X'
  exact ⟨t2, st t2 a1, b1⟩
theorem law_tide {L : Nat} {xs : Nat → Int32} (B : ∀ d0, BdX p R (s.setDrawn d0) m args c cells slots ad dA G A SHc H0 4 code P_L.1 21 (some (L, xs))) (hAd : AdOk ad A SHc.length) (k : Nat) (s' h v x : Int32) (J : MI) (E : MD) (hv : vn_sni2f v = true) (hn : LK p l e R s m args below meth c cells slots Q ad dA G A H0 1212 (lvL k) [.int (-2), .int x] J E) : LK p l e R s m args below meth c cells slots Q ad dA G A H0 1209 (lvL k) [.int v, .int h, .int s', .ref 12, .int x] J E := by
  intro d0 hd0 H locs ls hl hP hS
  obtain ⟨q, hq, q1, q2, q3, hw⟩ := okc_e P_L_ok (show okc P_L 121 196 3 false 12 = true by decide +kernel)
  have hM := c_M_tideS (l, ad, dA, G, A) 17 J E s' h v hv q hq
  have hde : decode code 1209 = .ok (.invokevirtual 121, 3) := by decide +kernel
  obtain ⟨o1, o2, o3, o4, o5, o6⟩ := okM_e (mt_good hq)
  obtain ⟨w1, w2, -, w3⟩ := mt_words hq
  obtain ⟨hx, hbb, hml, hown, hts, hK, -, -, ⟨r1, r2, r3, r4⟩, hN⟩ := id (B d0)
  have hs : ∃ fks, nth SHc 12 = some (.inl (12, fks)) := ⟨_, rfl⟩
  obtain ⟨fks, hs⟩ := hs
  have hrecv : ∃ cellB : Cell, H[ad 12]? = some cellB ∧ cellB.vm.isStatics = false ∧ (s.setDrawn d0).vm.findClass q.1.cls = some cellB.cls := by
    have h6 := o6 q2
    rw [q3] at h6
    cases hz : vwCl[12]? with
    | none => rw [hz] at h6; cases h6
    | some z =>
      rw [hz] at h6
      have h7 : z.1 = q.1.cls := by simpa using h6
      obtain ⟨cell, g1, g2, g3⟩ := va_recv hK hP hz (wld_at hs)
      exact ⟨cell, g1, g2, by rw [← h7]; exact g3⟩
  refine cl_goD (st0 := [.int v, .int h, .int s', .ref (ad 12), .int x]) hd0 (va_runV_D (cs := lw_cs) (C := q.1.cls) (b := ad 12) (As := [.int s', .int h, .int v]) (rest := [.int x]) ⟨hx, hbb, hml, hown, hts⟩ hM ⟨callB_of 3 hts (gt_goodIn w1) rfl rfl rfl (hts _ w2) (hts _ hw) ⟨o1, o2, by rw [← q1]; exact o3⟩ ⟨?_, ?_⟩, hts _ (w3 q2).1, hts _ (w3 q2).2⟩ ⟨PcM_blind _ _ _ _ _, hrecv, fun U hU hW => ⟨rfl, hAd, va_K.moved hW.alike hK, NwOk.warm hW hN, by rw [hU]; exact hP⟩⟩ rfl rfl hl.1 rfl (lv_room (Nat.le_of_ble_eq_true rfl)) hde ⟨r3, r4⟩) hS (fun d1 hd1 r I' D' H1 locs1 hp hP1 hS1 => ?_)
  · show 20 + 1 + 1 ≤ R.frames
    omega
  · show 8 + (q.2.2.1 + 11) + 64 * (20 + 1) ≤ R.locals
    omega
  · obtain ⟨rfl, rfl, rfl⟩ := hp
    exact hn d1 hd1 H1 locs1 ls hl hP1 hS1
/-- the law from its loop's head on -/
theorem law_head {b L : Nat} {xs : Nat → Int32} (hL : L ≤ 3584) (C0 : lw_At p s m meth c b L xs) (hK : va_K G vwCl (tysOf dA) s) (hAd : AdOk ad (fun q : Nat => s.heap.size ≤ q) SHc.length) (hb9 : ad 999 = b) {I : MI} {D : MD} (hrel : Rel I D) {H : Heap} {locs : List Loc} {ls : Array Slot} (hcs : cells ≤ 600000) (hss : slots ≤ 7302250)
    (hl : lv_has ls 4 ((lvL 0).map (cq ad))) (hP : va_P G vwCl (wld ad dA I D 0 SHc) H) (hS : va_S (fun q : Nat => s.heap.size ≤ q) s.heap H locs) : W p l e room_1 s m #[Value.ref b] below meth c H locs cells slots (lw_Z below #[Value.ref b] s) (F0 m 18 ls []) := by
  obtain ⟨hx, hb, hr, hml, hown, hts, hX, hbl, hlocks, hgv⟩ := id C0
  have htg : ∀ w ∈ gt, w.before #[Value.ref b] s = true := fun w hw => hts w (List.mem_filter.mp hw).1
  have hN : NwOk s := fun a i b n d h hm => va_Nw.of rfl (hts _ hm)
  have B : ∀ d0, BdX p room_1 (s.setDrawn d0) m #[Value.ref b] c cells slots ad dA G (fun q : Nat => s.heap.size ≤ q) SHc s.heap 4 code P_L.1 21 (some (L, xs)) := fun d0 =>
    ⟨hx, hb, hml, hown, dr_words htg d0, va_K.moved (u := s) (U := s.setDrawn d0) (Vm.Alike.refl s.vm) hK, wld_D hAd, (fun z hz => by
      cases hz
      rw [hb9]
      exact ⟨hX, hbl, Nat.not_le.mpr hbl⟩), ⟨Nat.le_of_ble_eq_true rfl, Nat.le_of_ble_eq_true rfl, hcs, hss⟩, NwOk.same (s := s) rfl hN⟩
  have hR : ∀ d0, s.drawn.sameBut d0 lw_cs → ∀ pc i a lv st I D, (i = .ireturn ∨ i = .lreturn ∨ i = .dreturn ∨ i = .return_) → decode code pc = .ok (i, 1) → okI P_L (some .boolean) 4 pc (pc + 1) i a 0 .null = true → RtL i a st I D → AtM p l e room_1 (s.setDrawn d0) m #[Value.ref b] below meth c cells slots (lw_Z below #[Value.ref b] s) ad dA G (fun q : Nat => s.heap.size ≤ q) SHc s.heap 4 pc lv st I D := by
    intro d0 hd0 pc i a lv st I D _ hdec _ hret H locs ls hl hP hS
    obtain ⟨rfl, rfl⟩ := hret
    refine va_forget (s := s.setDrawn d0) (fun q hq => hS.2.2 q hq) ?_
    refine W.widen (k := 600000) (n := 7302250) hcs hss ?_
    exact lw_ret hd0 hx hb hr hlocks hdec
  refine W.base ?_
  refine law_all (l, ad, dA, G, (fun q : Nat => s.heap.size ≤ q)) (xs := xs) (K := LK p l e room_1 s m #[Value.ref b] below meth c cells slots (lw_Z below #[Value.ref b] s) ad dA G (fun q : Nat => s.heap.size ≤ q) s.heap) hL ?_ (fun k s' h v x J E hv hn => law_tide B hAd k s' h v x J E hv hn) (L + 8) 0 I D (by omega) (by omega) hrel s.drawn (Drawn.sameBut.refl s.drawn lw_cs) H locs ls hl hP hS
  intro LV en ops hok lv st I D hwp d0 hd0
  exact (wp_sound (rt := some .boolean) P_L_ok (B d0) hAd (fun t lv st I D hk => hk d0 hd0) (hR d0 hd0) ops hok lv st I D).1 hwp
end SLM
