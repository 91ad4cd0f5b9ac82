/-! a stretch, then a method -/
section RS
variable {p : Program} {l : Launch} {e : Env} {R : Room} {s : State} {m : MethodId} {args : Array Value} {below : List Frame} {meth : Method} {c : Code} {cells slots : Nat} {Q : State → Prop}
variable {ad : Nat → Nat} {dA : Nat → ClassId} {G : va_G} {A : Nat → Prop} {SH : List Sh} {H0 : Heap} {nL : Nat} {cc : ByteArray} {d : Nat} {SC : Option (Nat × (Nat → Int32))} {P : Pl} {rt : Option FieldType}
theorem wp_sound {Rt : Rk} {LV : List (Nat × List Nat)} {K : Kt} {en : Nat} (hP : PlOk P) (B : BdX p R s m args c cells slots ad dA G A SH H0 nL cc P.1 d SC) (hAd : AdOk ad A SH.length)
    (hK : ∀ t lv st I D, K t lv st I D → AtM p l e R s m args below meth c cells slots Q ad dA G A SH H0 nL t lv st I D)
    (hR : ∀ pc i a lv st I D, (i = .ireturn ∨ i = .lreturn ∨ i = .dreturn ∨ i = .return_) → decode cc pc = .ok (i, 1) → okI P rt nL pc (pc + 1) i a 0 .null = true → Rt i a st I D → AtM p l e R s m args below meth c cells slots Q ad dA G A SH H0 nL pc lv st I D) :
    ∀ (ops : List Op), okS P rt nL cc en ops = true → ∀ (lv : Lv) (st : List Value) (I : MI) (D : MD),
      (wp SH SC Rt (CaD (l, ad, dA, G, A) SH d) LV K en ops none lv st I D → AtM p l e R s m args below meth c cells slots Q ad dA G A SH H0 nL (hdp en ops) lv st I D) ∧
      (∀ t, wp SH SC Rt (CaD (l, ad, dA, G, A) SH d) LV K en ops (some t) lv st I D → AtM p l e R s m args below meth c cells slots Q ad dA G A SH H0 nL t lv st I D) := by
  intro ops
  induction ops with
  | nil =>
    intro _ lv st I D
    exact ⟨fun h => AtM.pick hK h, fun t h => AtM.pick hK h⟩
  | cons q r ih =>
    intro hok lv st I D
    simp only [okS, Bool.and_eq_true, decide_eq_true_eq] at hok
    obtain ⟨⟨h1, h2⟩, h3⟩ := hok
    have ih' := ih h3
    have go : ∀ lv st I D, ex SH SC Rt (CaD (l, ad, dA, G, A) SH d) q.1 q.2.1 q.2.2.1 q.2.2.2.1 q.2.2.2.2 lv st I D (fun lv st I D => wp SH SC Rt (CaD (l, ad, dA, G, A) SH d) LV K en r none lv st I D) (fun t lv st I D => wp SH SC Rt (CaD (l, ad, dA, G, A) SH d) LV K en r (some t) lv st I D) → AtM p l e R s m args below meth c cells slots Q ad dA G A SH H0 nL q.1 lv st I D :=
      fun lv st I D h => ex_sound hP B hAd h1 h2 h (fun lv st I D h => (ih' lv st I D).1 h) (fun t lv st I D h => (ih' lv st I D).2 t h) hR
    refine ⟨fun h => go lv st I D h, fun t h => ?_⟩
    unfold wp at h
    split at h
    next hb =>
      have := Nat.eq_of_beq_eq_true hb
      subst this
      exact go lv st I D h
    next => exact (ih' lv st I D).2 t h
end RS
/-- a method's answer -/
def retP (Post : Po) : Rk := fun i a st I D => match i, st with
  | .ireturn, [.int x] => (match a with
    | 1 => (x = 0 ∨ x = 1) ∧ Post (some (.int x)) I D
    | _ => Post (some (.int x)) I D)
  | .lreturn, [.long x] => Post (some (.long x)) I D
  | .dreturn, [.double x] => Post (some (.double x)) I D
  | .return_, [] => Post none I D
  | _, _ => False
theorem Met.ofWF {l : Launch} {y : MethodName} {ws ws' : List Cond} {rm : Room} {Pc : Array Value → State → Prop} {Qc : Array Value → State → Outcome → State → Prop} {mc ms : Nat} {free : Addr → Prop} {cc : ByteArray} {maxL : Nat} {ret : Option FieldType}
    (hy : plainFor y = true) (hw : ws = Cond.code y cc maxL ret :: ws')
    (body : ∀ p e s m args below meth c s₁, BodyLoose p l y (headSpec ws rm) cc maxL ret e s m args below meth c s₁ → c.maxLocals = maxL → Pc args s →
      W p l e (headSpec ws rm).room s m args below meth c s.heap [] 0 0 (MQ below Qc args s mc ms free) (entryFrame m args maxL)) : Met l y ws rm Pc Qc mc ms free := by
  refine MetFree.of_bodySF (code := cc) (maxLocals := maxL) (ret := ret) hy ?_ ?_
  · intro args s m h hn
    obtain ⟨meth, c, h1, h2, h3, h4, h5, h6, -, -⟩ := Cond.code_spec hn (atoms_spec (ws := ws) h _ (by rw [hw]; exact List.mem_cons_self))
    exact ⟨meth, c, h1, h2, h3, h4, h5, h6⟩
  · intro p e s m args below meth c s₁ B hml hP _
    have hh0 : s₁.heap = s.heap := by rw [B.state]; rfl
    obtain ⟨t, a1, o, b1, b2, b3⟩ := body p e s m args below meth c s₁ B hml hP s₁ hh0 (Stand.of_body B)
    exact ⟨t, o, a1, b1, b2, ⟨b3.1, b3.2⟩⟩
theorem lv_args_map (ad : Nat → Nat) : ∀ (vs : List Value) (i : Nat), (lv_args i vs).map (cq ad) = lv_args i (vs.map (cv ad))
  | [], i => rfl
  | v :: vs, i => by
    simp only [lv_args, List.map_cons, cv_cat]
    rw [lv_args_map ad vs]
    rfl
/-- the stretches of a method: their first places, their ends, their instructions -/
abbrev Sg : Type := List (Nat × Nat × List Op)
def slen : List Value → Nat
  | [] => 0
  | v :: t => v.category + slen t
theorem slen_e : ∀ (vs : List Value), (lg_sl vs).length = slen vs
  | [] => rfl
  | v :: t => by
    have h := slen_e t
    unfold lg_sl at h ⊢
    simp only [List.flatMap_cons, List.length_append, h, slen]
    rcases lv_cat v with hc | hc <;> simp [hc]
theorem slen_map (ad : Nat → Nat) : ∀ (vs : List Value), slen (vs.map (cv ad)) = slen vs
  | [] => rfl
  | v :: t => by simp [slen, cv_cat, slen_map ad t]
def okG (P : Pl) (rt : Option FieldType) (nL : Nat) (cc : ByteArray) (S : Sg) : Bool := S.all (fun q => okS P rt nL cc q.2.1 q.2.2 && Nat.beq (hdp q.2.1 q.2.2) q.1)
/-- all that a method's bytes were checked for -/
def MOk (P : Pl) (S : Sg) (mid nL : Nat) : Prop := PlOk P ∧ ∃ q : Me, nth MT mid = some q ∧ P.1 = q.1.cls ∧ q.2.2.1 = nL ∧ okG P q.2.2.2.1 q.2.2.1 q.2.1 S = true
set_option maxHeartbeats 1000000 in
/-- THE CONTRACT OF A METHOD OUT OF ITS STRETCHES: K is the machine at a place; each stretch gives K at its first place -/
theorem Con.mk {g : Gp} {SH : List Sh} {d mid nL : Nat} {As : List Value} {I : MI} {D : MD} {Post : Po} {P : Pl} {S : Sg} {LV : List (Nat × List Nat)} (hM : MOk P S mid nL) (hsl : slen As ≤ nL)
    (h : ∀ K : Kt, (∀ q ∈ S, ∀ lv st I D, wp SH none (retP Post) (CaD g SH d) LV K q.2.1 q.2.2 none lv st I D → K q.1 lv st I D) → K 0 (lv_args 0 As) [] I D) : Con g SH d mid As I D Post := by
  obtain ⟨l, ad, dA, G, A⟩ := g
  intro q hq
  obtain ⟨hPl, q', hq', hown0, hnl, hG⟩ := hM
  cases hq.symm.trans hq'
  obtain ⟨o1, o2, o3, o4, o5, -⟩ := okM_e (mt_good hq)
  refine Met.ofWF (cc := q.2.1) (maxL := q.2.2.1) (ret := q.2.2.2.1) o5 rfl ?_
  intro p e s m args below meth c s₁ B hml hv
  obtain ⟨rfl, hAd, hK, hN, hP⟩ := hv
  have hts := atoms_spec (ws := Cond.code q.1 q.2.1 q.2.2.1 q.2.2.2.1 :: gt) B.pre
  have hown : s.vm.findClass P.1 = some m.cls := by rw [hown0]; exact findClass_of_methodNamed B.named
  have hlocks := B.notSynchronized
  have hr := B.returns
  have Bd0 : BdX p (rmd d) s m (As.map (cv ad)).toArray c 0 0 ad dA G A SH s.heap q.2.2.1 q.2.1 P.1 d none :=
    ⟨B.exec, B.bytes, hml, hown, fun w hw => hts w (List.mem_cons_of_mem _ hw), hK, wld_D hAd, (fun z hz => nomatch hz), ⟨Nat.le_refl _, Nat.le_refl _, Nat.le_refl _, Nat.le_refl _⟩, hN⟩
  have hent : ∀ K : Kt, (∀ t lv st I D, K t lv st I D → AtM p l e (rmd d) s m (As.map (cv ad)).toArray below meth c 0 0 (MQ below (QcM (l, ad, dA, G, A) SH Post) (As.map (cv ad)).toArray s 0 0 A) ad dA G A SH s.heap q.2.2.1 t lv st I D) → K 0 (lv_args 0 As) [] I D → W p l e (rmd d) s m (As.map (cv ad)).toArray below meth c s.heap [] 0 0 (MQ below (QcM (l, ad, dA, G, A) SH Post) (As.map (cv ad)).toArray s 0 0 A) (entryFrame m (As.map (cv ad)).toArray q.2.2.1) := by
    intro K hK0 hK1
    have hl := lv_entry (As.map (cv ad)) (n := q.2.2.1) (by rw [slen_e, slen_map]; rw [hnl]; exact hsl)
    rw [lg_entry_eq]
    exact hK0 _ _ _ _ _ hK1 s.heap [] _ (by rw [lv_args_map]; exact hl) hP va_S.rf
  refine hent _ (fun t lv st I D h => h) (h _ ?_)
  intro z hz lv st I' D' hwp
  have hzok := List.all_eq_true.mp hG z hz
  simp only [Bool.and_eq_true] at hzok
  have e1 := Nat.eq_of_beq_eq_true hzok.2
  have := (wp_sound (rt := q.2.2.2.1) hPl Bd0 hAd (fun t lv st I D h => h) ?_ z.2.2 hzok.1 lv st I' D').1 hwp
  · rw [e1] at this
    exact this
  · intro pc i a lv st I D hi hdec hok hret H locs ls hl hP hS
    have fin : ∀ (r : Option Value), Post r I D → ∀ t : State, t.heap = H → s.WarmedH t.vm → QcM (l, ad, dA, G, A) SH Post (As.map (cv ad)).toArray s (.returned (r.map (cv ad))) t :=
      fun r hp t ht _ => ⟨⟨r, I, D, rfl, hp, by rw [ht]; exact hP⟩, hS.F ht⟩
    unfold retP at hret
    split at hret
    next x =>
      simp only [okI, Bool.and_eq_true] at hok
      split at hret
      next =>
        have hrt : meth.sig.returnType = some .boolean := by rw [hr]; exact of_decide_eq_true hok.2
        refine W.zret (ty := .boolean) B.exec B.bytes hrt ?_ (fin _ hret.2) hS.2.2 hdec
        rcases hret.1 with rfl | rfl <;> rfl
      next hne =>
        have hrt : meth.sig.returnType = some .int := by
          rw [hr]
          have h5 := hok.2
          split at h5
          next => exact absurd rfl hne
          next => exact of_decide_eq_true h5
        exact W.iret B.exec B.bytes hrt (fin _ hret) hS.2.2 hdec
    next x =>
      simp only [okI, Bool.and_eq_true] at hok
      have hrt : meth.sig.returnType = some .long := by rw [hr]; exact of_decide_eq_true hok.2
      exact W.lret B.exec B.bytes hrt (fin _ hret) hS.2.2 hdec
    next x =>
      simp only [okI, Bool.and_eq_true] at hok
      have hrt : meth.sig.returnType = some .double := by rw [hr]; exact of_decide_eq_true hok.2
      exact W.dret B.exec B.bytes hrt (fin _ hret) hS.2.2 hdec
    next =>
      simp only [okI, Bool.and_eq_true] at hok
      have hrt : meth.sig.returnType = none := by rw [hr]; exact of_decide_eq_true hok.2
      exact W.vret B.exec B.bytes hrt (fin _ hret) hS.2.2 hdec
    next => exact hret.elim
