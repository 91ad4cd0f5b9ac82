/-! a method's contract, and calls by it -/
def rmd (d : Nat) : Room := { frames := d + 1, cells := 0, slots := 0, locals := 64 * (d + 1) }
def AdOk (ad : Nat → Nat) (A : Nat → Prop) (n : Nat) : Prop := (∀ i j, i < n → j < n → ad i = ad j → i = j) ∧ ∀ i, i < n → A (ad i)
def PcM (g : Gp) (SH : List Sh) (As : List Value) (I : MI) (D : MD) : Array Value → State → Prop := va_Pc (As.map (cv g.2.1)) (fun U => AdOk g.2.1 g.2.2.2.2 SH.length ∧ va_K g.2.2.2.1 vwCl (tysOf g.2.2.1) U ∧ NwOk U ∧ va_P g.2.2.2.1 vwCl (wld g.2.1 g.2.2.1 I D 0 SH) U.heap)
def QcM (g : Gp) (SH : List Sh) (Post : Po) : Array Value → State → Outcome → State → Prop := fun _ st oc t => (∃ r I D, oc = .returned (r.map (cv g.2.1)) ∧ Post r I D ∧ va_P g.2.2.2.1 vwCl (wld g.2.1 g.2.2.1 I D 0 SH) t.heap) ∧ va_F g.2.2.2.2 st t
/-- method mid, called with As over the contents I, D, with room for d calls one in the other, answers and leaves contents as Post says -/
def Con (g : Gp) (SH : List Sh) (d mid : Nat) (As : List Value) (I : MI) (D : MD) (Post : Po) : Prop :=
  ∀ q : Me, nth MT mid = some q → Met g.1 q.1 (Cond.code q.1 q.2.1 q.2.2.1 q.2.2.2.1 :: gt) (rmd d) (PcM g SH As I D) (QcM g SH Post) 0 0 g.2.2.2.2
def CaD (g : Gp) (SH : List Sh) : Nat → Ck
  | 0 => fun _ _ _ _ _ => False
  | d + 1 => fun mid As I D k => ∃ Post, Con g SH d mid As I D Post ∧ ∀ o I' D', Post o I' D' → k o I' D'
theorem wld_D {ad : Nat → Nat} {dA : Nat → ClassId} {A : Nat → Prop} {SH : List Sh} (h : AdOk ad A SH.length) (I : MI) (D : MD) : va_D A (wld ad dA I D 0 SH) := by
  have e : ∀ (k : Nat) (q : Nat × va_E), (wld ad dA I D 0 SH)[k]? = some q → k < SH.length ∧ q.1 = ad k := by
    intro k q hq
    have hl : k < (wld ad dA I D 0 SH).length := (List.getElem?_eq_some_iff.mp hq).1
    rw [wld_len] at hl
    rw [wld_get, List.getElem?_eq_getElem hl] at hq
    simp only [Option.map_some, Option.some.injEq, Nat.zero_add] at hq
    exact ⟨hl, by rw [← hq]⟩
  refine ⟨fun i j x y hi hj hxy => ?_, fun k q hq => ?_⟩
  · obtain ⟨h1, h2⟩ := e i x hi
    obtain ⟨h3, h4⟩ := e j y hj
    exact h.1 i j h1 h3 (by rw [← h2, ← h4]; exact hxy)
  · obtain ⟨h1, h2⟩ := e k q hq
    rw [h2]
    exact h.2 k h1
theorem PcM_blind (g : Gp) (SH : List Sh) (As : List Value) (I : MI) (D : MD) : FrameBlind (PcM g SH As I D) := by
  intro a U gf mk q
  obtain ⟨q0, q1, qK, qN, qP⟩ := q
  exact ⟨q0, q1, va_K.moved (u := U) (U := U.calling gf mk a) (Vm.Alike.refl U.vm) qK, NwOk.same (s := U) rfl qN, qP⟩
theorem gt_goodIn {w : Cond} (hw : w ∈ gt) : GoodIn gt (w :: gt) := by
  intro x hx
  have hm : x ∈ gt := (List.mem_cons.mp hx).elim (fun e => by rw [e]; exact hw) (fun h => h)
  exact ⟨hm, good_of_word (List.mem_filter.mp hm).2⟩
section RC
variable {p : Program} {l : Launch} {e : Env} {R : Room} {s : State} {m : MethodId} {args : Array Value} {below : List Frame} {meth : Method} {c : Code} {cells slots : Nat} {Q : State → Prop}
variable {ad : Nat → Nat} {dA : Nat → ClassId} {G : va_G} {A : Nat → Prop} {SH : List Sh} {H0 : Heap} {nL : Nat} {cc : ByteArray} {own : String} {d : Nat} {SC : Option (Nat × (Nat → Int32))}
variable {pc : Nat} {lv : Lv} {st : List Value} {I : MI} {D : MD} {k : Nt} {a b : Nat} {v : Value}
theorem cl_go {H : Heap} {locs : List Loc} {ls : Array Slot} {st0 rest : List Value} {Post : Po} {av : Array Value} (hr : va_Run p l e R s m args below meth c H locs cells slots 0 0 (F0 m pc ls st0) rest (QcM (l, ad, dA, G, A) SH Post av) A) (hS : va_S A H0 H locs)
    (kk : ∀ r I' D' H1 locs1, Post r I' D' → va_P G vwCl (wld ad dA I' D' 0 SH) H1 → va_S A H0 H1 locs1 → W p l e R s m args below meth c H1 locs1 cells slots Q (F0 m (pc + 3) ls ((r.map (cv ad)).toList ++ rest))) : W p l e R s m args below meth c H locs cells slots Q (F0 m pc ls st0) := by
  intro T hT X
  obtain ⟨v, st₀, t, T', L, h0, X', hL, e1, e2, ⟨⟨r, I', D', hv, hp, hb⟩, hz, hk⟩, st⟩ := hr T hT X
  cases hv
  rw [h0] at hz hk
  obtain ⟨t2, a1, b1⟩ := kk r I' D' T'.heap (locs ++ L) hp (by rw [e1]; exact hb)
    ⟨Nat.le_trans hS.1 (by rw [e1]; exact hz), fun q h1 h2 => by rw [e1, hk q (Nat.lt_of_lt_of_le h1 hS.1) h2]; exact hS.2.1 q h1 h2, fun q hq => by
      rcases List.mem_append.mp hq with h | h
      · exact hS.2.2 q h
      · exact hL q h⟩ T' rfl X'
  exact ⟨t2, st t2 a1, b1⟩
theorem okM_e {q : Me} (h : okM q = true) : q.1.cls ≠ "java/lang/invoke/MethodHandle" ∧ q.1.cls ≠ "java/lang/invoke/VarHandle" ∧ (parseMethodDescriptor q.1.desc).map (fun d => d.parameters.length) = some q.2.2.2.2.1 ∧ q.2.2.1 ≤ 40 ∧ plainFor q.1 = true ∧ (q.2.2.2.2.2.1 = false → (vwCl[q.2.2.2.2.2.2.1]?).map (fun z => z.1) = some q.1.cls) := by
  unfold okM at h
  simp only [Bool.and_eq_true, decide_eq_true_eq] at h
  obtain ⟨⟨⟨⟨⟨h1, h2⟩, h3⟩, h4⟩, h5⟩, h6⟩ := h
  refine ⟨h1, h2, h3, Nat.le_of_ble_eq_true h4, h5, fun hs => ?_⟩
  rw [hs] at h6
  simpa using h6
theorem map_cv_cat (r : List Value) : ((r.map (cv ad)).map fun v => v.category).sum = csum r := by
  rw [csum_e, List.map_map]
  congr 1
  apply List.map_congr_left
  intro x _
  exact cv_cat ad x
theorem opt_map (r : Option Value) (rest : List Value) : (r.map (cv ad)).toList ++ rest.map (cv ad) = (r.toList ++ rest).map (cv ad) := by
  cases r <;> simp
theorem x_callS {n : Nat} {q : Me} (B : BdX p R s m args c cells slots ad dA G A SH H0 nL cc own d SC) (hAd : AdOk ad A SH.length) (hd : decode cc pc = .ok (.invokestatic n, 3)) (hq : nth MT a = some q) (hst : q.2.2.2.2.2.1 = true) (hb : q.2.2.2.2.1 = b) (hw : Cond.methodLink own n q.1 ∈ gt)
    (h : popN b st [] (fun As r => okst r (CaD (l, ad, dA, G, A) SH d a As I D (fun o I' D' => k lv (o.toList ++ r) I' D')))) (hk : ∀ lv st I D, k lv st I D → AtM p l e R s m args below meth c cells slots Q ad dA G A SH H0 nL (pc + 3) lv st I D) : AtM p l e R s m args below meth c cells slots Q ad dA G A SH H0 nL pc lv st I D := by
  obtain ⟨vs, r, hn, rfl, h1⟩ := popN_e h
  rw [List.append_nil] at h1
  obtain ⟨hcs, h2⟩ := okst_e h1
  cases d with
  | zero => exact h2.elim
  | succ d =>
    obtain ⟨Post, hC, hkon⟩ := h2
    intro H locs ls hl hP hS
    obtain ⟨o1, o2, o3, o4, o5, -⟩ := okM_e (mt_good hq)
    obtain ⟨w1, w2, w3, -⟩ := mt_words hq
    obtain ⟨hx, hbb, hml, hown, hts, hK, -, -, ⟨r1, r2, r3, r4⟩, hN⟩ := id B
    have hM := hC q hq
    refine cl_go (hr := va_runS (As := (vs.reverse).map (cv ad)) (rest := r.map (cv ad)) ⟨hx, hbb, hml, hown, hts⟩ hM ⟨callB_of b hts (gt_goodIn w1) rfl rfl rfl (hts _ w2) (hts _ hw) ⟨o1, o2, by rw [← hb]; exact o3⟩ ⟨?_, ?_⟩, hts _ (w3 hst)⟩ ⟨PcM_blind _ _ _ _ _, fun U hU hW => ⟨rfl, hAd, va_K.moved hW.alike hK, NwOk.warm hW hN, by rw [hU]; exact hP⟩⟩ rfl ?_ hl.1 ?_ ?_ hd ⟨r3, r4⟩) hS (fun r I' D' H1 locs1 hp hP1 hS1 => ?_)
    · show d + 1 + 1 ≤ R.frames
      omega
    · show 8 + (q.2.2.1 + 11) + 64 * (d + 1) ≤ R.locals
      omega
    · simp [hn]
    · simp
    · refine lv_room ?_
      rw [map_cv_cat]
      exact hcs
    · have h5 := hk _ _ _ _ (hkon r I' D' hp) H1 locs1 ls hl hP1 hS1
      rw [← opt_map] at h5
      exact h5
theorem x_callV {n ci : Nat} {q : Me} (B : BdX p R s m args c cells slots ad dA G A SH H0 nL cc own d SC) (hAd : AdOk ad A SH.length) (hd : decode cc pc = .ok (.invokevirtual n, 3)) (hq : nth MT a = some q) (hst : q.2.2.2.2.2.1 = false) (hb : q.2.2.2.2.1 = b) (hci : q.2.2.2.2.2.2.1 = ci) (hw : Cond.methodLink own n q.1 ∈ gt)
    (h : popN b st [] (fun As r => tR r (fun t r => atO SH t ci (fun _ => okst r (CaD (l, ad, dA, G, A) SH d a (.ref t :: As) I D (fun o I' D' => k lv (o.toList ++ r) I' D')))))) (hk : ∀ lv st I D, k lv st I D → AtM p l e R s m args below meth c cells slots Q ad dA G A SH H0 nL (pc + 3) lv st I D) : AtM p l e R s m args below meth c cells slots Q ad dA G A SH H0 nL pc lv st I D := by
  obtain ⟨vs, r, hn, rfl, h1⟩ := popN_e h
  rw [List.append_nil] at h1
  obtain ⟨t, r, rfl, h3⟩ := tR_e h1
  obtain ⟨fks, hs, h4⟩ := atO_e h3
  obtain ⟨hcs, h2⟩ := okst_e h4
  cases d with
  | zero => exact h2.elim
  | succ d =>
    obtain ⟨Post, hC, hkon⟩ := h2
    intro H locs ls hl hP hS
    obtain ⟨o1, o2, o3, o4, o5, o6⟩ := okM_e (mt_good hq)
    obtain ⟨w1, w2, -, w3⟩ := mt_words hq
    obtain ⟨hx, hbb, hml, hown, hts, hK, -, -, ⟨r1, r2, r3, r4⟩, hN⟩ := id B
    have hM := hC q hq
    have hrecv : ∃ cellB : Cell, H[ad t]? = some cellB ∧ cellB.vm.isStatics = false ∧ s.vm.findClass q.1.cls = some cellB.cls := by
      have h6 := o6 hst
      rw [hci] at h6
      cases hz : vwCl[ci]? with
      | none => rw [hz] at h6; cases h6
      | some z =>
        rw [hz] at h6
        have h7 : z.1 = q.1.cls := by simpa using h6
        obtain ⟨cell, g1, g2, g3⟩ := va_recv hK hP hz (wld_at hs)
        exact ⟨cell, g1, g2, by rw [← h7]; exact g3⟩
    refine cl_go (hr := va_runV (C := q.1.cls) (b := ad t) (As := (vs.reverse).map (cv ad)) (rest := r.map (cv ad)) ⟨hx, hbb, hml, hown, hts⟩ hM ⟨callB_of b hts (gt_goodIn w1) rfl rfl rfl (hts _ w2) (hts _ hw) ⟨o1, o2, by rw [← hb]; exact o3⟩ ⟨?_, ?_⟩, hts _ (w3 hst).1, hts _ (w3 hst).2⟩ ⟨PcM_blind _ _ _ _ _, hrecv, fun U hU hW => ⟨rfl, hAd, va_K.moved hW.alike hK, NwOk.warm hW hN, by rw [hU]; exact hP⟩⟩ rfl ?_ hl.1 ?_ ?_ hd ⟨r3, r4⟩) hS (fun r I' D' H1 locs1 hp hP1 hS1 => ?_)
    · show d + 1 + 1 ≤ R.frames
      omega
    · show 8 + (q.2.2.1 + 11) + 64 * (d + 1) ≤ R.locals
      omega
    · simp [hn]
    · simp [cv]
    · refine lv_room ?_
      rw [map_cv_cat]
      exact hcs
    · have h5 := hk _ _ _ _ (hkon r I' D' hp) H1 locs1 ls hl hP1 hS1
      rw [← opt_map] at h5
      exact h5
theorem x_nat1 {n : Nat} (B : BdX p R s m args c cells slots ad dA G A SH H0 nL cc own d SC) (hd : decode cc pc = .ok (.invokestatic n, 3)) (hw : Cond.methodLink own n (yN 1) ∈ gt) (h : tI st (fun x r => okst r (vn_sni2f x = false ∧ k lv (.float x.toUInt32 :: r) I D))) (hk : ∀ lv st I D, k lv st I D → AtM p l e R s m args below meth c cells slots Q ad dA G A SH H0 nL (pc + 3) lv st I D) : AtM p l e R s m args below meth c cells slots Q ad dA G A SH H0 nL pc lv st I D := by
  obtain ⟨x, r, rfl, h1⟩ := tI_e h
  obtain ⟨hcs, h2, h3⟩ := okst_e h1
  intro H locs ls hl hP hS
  obtain ⟨hx, hbb, hml, hown, hts, hK, -, -, ⟨r1, r2, r3, r4⟩, hN⟩ := id B
  exact vn_i2f hx hbb (by rw [hml, hl.1]) hown (hts _ hw) (hts _ nat_ok.1.1) (hts _ nat_ok.1.2.1) (hts _ nat_ok.1.2.2) h2 (by omega) (by rw [map_cv_cat]; omega) hd (hk _ _ _ _ h3 H locs ls hl hP hS)
theorem x_nat2 {n : Nat} (B : BdX p R s m args c cells slots ad dA G A SH H0 nL cc own d SC) (hd : decode cc pc = .ok (.invokestatic n, 3)) (hw : Cond.methodLink own n (yN 2) ∈ gt) (h : tD st (fun x r => okst r (k lv (.long x.toInt64 :: r) I D))) (hk : ∀ lv st I D, k lv st I D → AtM p l e R s m args below meth c cells slots Q ad dA G A SH H0 nL (pc + 3) lv st I D) : AtM p l e R s m args below meth c cells slots Q ad dA G A SH H0 nL pc lv st I D := by
  obtain ⟨x, r, rfl, h1⟩ := tD_e h
  obtain ⟨hcs, h3⟩ := okst_e h1
  intro H locs ls hl hP hS
  obtain ⟨hx, hbb, hml, hown, hts, hK, -, -, ⟨r1, r2, r3, r4⟩, hN⟩ := id B
  exact vn_d2l hx hbb (by rw [hml, hl.1]) hown (hts _ hw) (hts _ nat_ok.2.1) (hts _ nat_ok.2.2.1) (hts _ nat_ok.2.2.2) (by omega) (by rw [map_cv_cat]; omega) hd (hk _ _ _ _ h3 H locs ls hl hP hS)
theorem swt_e {x : Int32} {jp : Int → Prop} {P : Prop} : ∀ {os : List Int} {n : Int}, swt x jp P n os → (∀ (i : Nat) (o : Int), os[i]? = some o → x.toInt = n + i → jp o) ∧ P
  | [], n, h => ⟨fun i o hi => by simp at hi, h⟩
  | o :: os, n, h => by
    obtain ⟨h1, h2⟩ := h
    obtain ⟨h3, h4⟩ := swt_e h2
    refine ⟨fun i o' hi hx => ?_, h4⟩
    cases i with
    | zero =>
      simp only [List.getElem?_cons_zero, Option.some.injEq] at hi
      subst hi
      exact h1 (by simpa using hx)
    | succ i =>
      simp only [List.getElem?_cons_succ] at hi
      exact h3 i o' hi (by rw [hx]; push_cast; omega)
theorem tgt_e {pc : Nat} {o : Int} (h : 0 ≤ (pc : Int) + o) : (pc : Int) + o = (tgt pc o : Int) := by
  unfold tgt
  omega
theorem x_tsw {dflt lo hi : Int} {offs : Array Int} {len : Nat} {jp : Kt} (B : BdX p R s m args c cells slots ad dA G A SH H0 nL cc own d SC) (hd : decode cc pc = .ok (.tableswitch dflt lo hi offs, len)) (hsz : (offs.toList.length : Int) = hi - lo + 1) (ht : ∀ o ∈ dflt :: offs.toList, 0 ≤ (pc : Int) + o)
    (h : tI st (fun x r => swt x (fun o => jp (tgt pc o) lv r I D) ((x.toInt < lo ∨ hi < x.toInt) → jp (tgt pc dflt) lv r I D) lo offs.toList)) (hj : ∀ t lv st I D, jp t lv st I D → AtM p l e R s m args below meth c cells slots Q ad dA G A SH H0 nL t lv st I D) : AtM p l e R s m args below meth c cells slots Q ad dA G A SH H0 nL pc lv st I D := by
  obtain ⟨x, r, rfl, h1⟩ := tI_e h
  obtain ⟨h2, h3⟩ := swt_e h1
  intro H locs ls hl hP hS
  by_cases hx : x.toInt < lo ∨ hi < x.toInt
  · exact lv_tableOut B.1 B.2.1 hd hx (tgt_e (ht _ List.mem_cons_self)) (hj _ _ _ _ _ (h3 hx) H locs ls hl hP hS)
  · have hx1 : ¬ x.toInt < lo := fun q => hx (Or.inl q)
    have hx2 : ¬ hi < x.toInt := fun q => hx (Or.inr q)
    have hlt : (x.toInt - lo).toNat < offs.toList.length := by omega
    have ho : offs.toList[(x.toInt - lo).toNat]? = some offs.toList[(x.toInt - lo).toNat] := List.getElem?_eq_getElem hlt
    exact lv_tableIn B.1 B.2.1 hd hx1 hx2 (by rw [← Array.getElem?_toList]; exact ho) (tgt_e (ht _ (List.mem_cons_of_mem _ (List.getElem_mem hlt)))) (hj _ _ _ _ _ (h2 _ _ ho (by omega)) H locs ls hl hP hS)
theorem swl_e {x : Int32} {jp : Int → Prop} {dflt : Int} : ∀ {ps : List (Int × Int)} {P : Prop}, (P → jp dflt) → swl x jp ps P → jp (Op.lookupswitch.offset ps dflt x.toInt)
  | [], P, hP, h => by
    have e : Op.lookupswitch.offset [] dflt x.toInt = dflt := by rfl
    rw [e]
    exact hP h
  | q :: qs, P, hP, h => by
    obtain ⟨h1, h2⟩ := h
    rw [Op.lookupswitch.offset_cons]
    split
    next he => exact h1 he.symm
    next he => exact swl_e (fun h => hP (h (fun z => he z.symm))) h2
theorem x_lsw {dflt : Int} {ps : Array (Int × Int)} {len : Nat} {jp : Kt} (B : BdX p R s m args c cells slots ad dA G A SH H0 nL cc own d SC) (hd : decode cc pc = .ok (.lookupswitch dflt ps, len)) (hp : (ps.toList.zip (ps.toList.drop 1)).all (fun (a, next) => a.1 < next.1) = true) (ht : ∀ o ∈ dflt :: ps.toList.map (fun q => q.2), 0 ≤ (pc : Int) + o)
    (h : tI st (fun x r => swl x (fun o => jp (tgt pc o) lv r I D) ps.toList (jp (tgt pc dflt) lv r I D))) (hj : ∀ t lv st I D, jp t lv st I D → AtM p l e R s m args below meth c cells slots Q ad dA G A SH H0 nL t lv st I D) : AtM p l e R s m args below meth c cells slots Q ad dA G A SH H0 nL pc lv st I D := by
  obtain ⟨x, r, rfl, h1⟩ := tI_e h
  have h2 := swl_e (dflt := dflt) (fun q => q) h1
  intro H locs ls hl hP hS
  refine lv_lookup B.1 B.2.1 hd hp rfl (tgt_e ?_) (hj _ _ _ _ _ h2 H locs ls hl hP hS)
  have : ∀ (qs : List (Int × Int)), (∀ o ∈ dflt :: qs.map (fun q => q.2), 0 ≤ (pc : Int) + o) → 0 ≤ (pc : Int) + Op.lookupswitch.offset qs dflt x.toInt := by
    intro qs
    induction qs with
    | nil => intro hh; exact hh _ List.mem_cons_self
    | cons q qs ih =>
      intro hh
      rw [Op.lookupswitch.offset_cons]
      split
      next => exact hh _ (List.mem_cons_of_mem _ (by simp))
      next => exact ih (fun o ho => hh o ((List.mem_cons.mp ho).elim (fun e => by rw [e]; exact List.mem_cons_self) (fun h => List.mem_cons_of_mem _ (by simp only [List.map_cons]; exact List.mem_cons_of_mem _ h))))
  exact this _ ht
end RC
