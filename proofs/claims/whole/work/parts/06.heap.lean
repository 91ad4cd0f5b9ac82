/-! cells: fields, rows, the script; calls -/
theorem pl_f {P : Pl} (hP : PlOk P) {q : Pf} (hq : q ∈ P.2.1) : wF P.1 q ∈ lw_tbl := by
  have h := List.map_inj_left.mp hP.1 q hq
  rw [nth_eq] at h
  exact tb_in _ _ (List.mem_of_getElem? h)
theorem pl_c {P : Pl} (hP : PlOk P) {q : Pc} (hq : q ∈ P.2.2.1) : wC P.1 q ∈ gt := by
  have h := List.map_inj_left.mp hP.2.1 q hq
  refine gt_in h ?_
  unfold wC
  split <;> rfl
theorem pl_m {P : Pl} (hP : PlOk P) {q : Pm} (hq : q ∈ P.2.2.2.1) : wM P.1 q ∈ gt := by
  have h := List.map_inj_left.mp hP.2.2.1 q hq
  refine gt_in h ?_
  unfold wM
  split <;> rfl
theorem pl_n {P : Pl} (hP : PlOk P) {q : Pm} (hq : q ∈ P.2.2.2.2) : wN P.1 q ∈ gt := by
  have h := List.map_inj_left.mp hP.2.2.2 q hq
  exact gt_in h rfl
theorem cT_at {a : Nat} (h : a < 13) : vwCl[a]? = some (cT a) := by
  have h1 : a < vwCl.length := h
  unfold cT
  rw [nth_eq, List.getElem?_eq_getElem h1]
theorem cT_ok {a : Nat} (h : a < 13) : clOk (cT a) := vw_ok _ (List.mem_of_getElem? (cT_at h))
theorem mt_good {mid : Nat} {q : Me} (h : nth MT mid = some q) : okM q = true := List.all_eq_true.mp MT_ok q (by rw [nth_eq] at h; exact List.mem_of_getElem? h)
theorem plc_in {q : Me} {i : Nat} {w : Cond} (h : plc q i = some w) (hg : goodWord w = true) : w ∈ gt := by
  unfold plc at h
  split at h
  next z _ => exact gt_in h hg
  next => cases h
theorem mt_words {mid : Nat} {q : Me} (h : nth MT mid = some q) : Cond.code q.1 q.2.1 q.2.2.1 q.2.2.2.1 ∈ gt ∧ Cond.initialized q.1.cls ∈ gt ∧ (q.2.2.2.2.2.1 = true → Cond.static q.1 ∈ gt) ∧ (q.2.2.2.2.2.1 = false → Cond.instanceMethod q.1 ∈ gt ∧ Cond.selects q.1.cls q.1 q.1 ∈ gt) := by
  have h1 := List.map_inj_left.mp MT_w q (by rw [nth_eq] at h; exact List.mem_of_getElem? h)
  unfold mw mw' at h1
  cases hs : q.2.2.2.2.2.1 with
  | true =>
    rw [hs] at h1
    simp only [List.cons.injEq, and_true] at h1
    exact ⟨plc_in h1.1 rfl, plc_in h1.2.1 rfl, ⟨fun _ => plc_in h1.2.2.1 rfl, nofun⟩⟩
  | false =>
    rw [hs] at h1
    simp only [List.cons.injEq, and_true] at h1
    exact ⟨plc_in h1.1 rfl, plc_in h1.2.1 rfl, ⟨nofun, fun _ => ⟨plc_in h1.2.2.1 rfl, plc_in h1.2.2.2 rfl⟩⟩⟩
section RH
variable {p : Program} {l : Launch} {e : Env} {R : Room} {s : State} {m : MethodId} {args : Array Value} {below : List Frame} {meth : Method} {c : Code} {cells slots : Nat} {Q : State → Prop}
variable {ad : Nat → Nat} {dA : Nat → ClassId} {G : va_G} {A : Nat → Prop} {SH : List Sh} {H0 : Heap} {nL : Nat} {cc : ByteArray} {own : String} {d : Nat} {SC : Option (Nat × (Nat → Int32))}
variable {pc : Nat} {lv : Lv} {st : List Value} {I : MI} {D : MD} {k : Nt} {a b : Nat} {v : Value}
theorem x_get {n : Nat} {z : Bool} {t o : Nat} (B : BdX p R s m args c cells slots ad dA G A SH H0 nL cc own d SC) (hd : decode cc pc = .ok (.getfield n, 3)) (ha : a < 13) (hn : b < (cT a).2.2) (hw : wF own (n, a, b, z, t, o) ∈ lw_tbl) (h : xget SH a b st I D (fun r => k lv r I D)) (hk : ∀ lv st I D, k lv st I D → AtM p l e R s m args below meth c cells slots Q ad dA G A SH H0 nL (pc + 3) lv st I D) : AtM p l e R s m args below meth c cells slots Q ad dA G A SH H0 nL pc lv st I D := by
  obtain ⟨q, r, rfl, h1⟩ := tR_e h
  obtain ⟨fks, hs, h2⟩ := atO_e h1
  intro H locs ls hl hP hS
  have key : ∀ f : Nat ⊕ Bool, nth fks b = some f → W p l e R s m args below meth c H locs cells slots Q (F0 m (pc + 3) ls (fv ad I D q b f :: r.map (cv ad))) → W p l e R s m args below meth c H locs cells slots Q (F0 m pc ls ((Value.ref q :: r).map (cv ad))) := by
    intro f hf kk
    have hv : (fvs ad I D q 0 fks)[b]? = some (fv ad I D q b f) := by rw [fvs_get, ← nth_eq, hf]; simp
    cases z with
    | false => exact va_get (D := G) (ci := a) (C := (cT a).1) (T := (cT a).2.1) (N := (cT a).2.2) B.1 B.2.1 B.2.2.2.2.1 (cT_ok ha).1 B.2.2.2.1 B.2.2.2.2.2.1 hP q (wld_at hs) (cT_at ha) b hn (B.2.2.2.2.1 _ (List.mem_filter.mpr ⟨hw, rfl⟩)) (fun _ h9 => h9) hv hd kk
    | true => exact va_getN (D := G) (ci := a) (C := (cT a).1) (T := (cT a).2.1) (N := (cT a).2.2) B.1 B.2.1 B.2.2.2.2.1 (cT_ok ha).1 B.2.2.2.1 B.2.2.2.2.2.1 hP q (wld_at hs) (cT_at ha) b hn (va_Nw.use rfl (B.2.2.2.2.2.2.2.2.2 _ _ _ _ _ _ hw)) (fun _ h9 => h9) hv hd kk
  cases hf : nth fks b with
  | none => rw [hf] at h2; exact h2.elim
  | some f =>
    rw [hf] at h2
    refine key f hf ?_
    rcases f with t | (_ | _)
    · exact hk _ _ _ _ h2 H locs ls hl hP hS
    · exact hk _ _ _ _ h2 H locs ls hl hP hS
    · exact hk _ _ _ _ h2 H locs ls hl hP hS
/-- a field is written: its type is int, boolean (then 0 or 1) or double -/
theorem x_put {n : Nat} {z : Bool} {t o : Nat} {ty : FieldType} (B : BdX p R s m args c cells slots ad dA G A SH H0 nL cc own d SC) (hd : decode cc pc = .ok (.putfield n, 3)) (ha : a < 13) (hn : b < (cT a).2.2) (hw : wF own (n, a, b, z, t, o) ∈ lw_tbl) (hfin : ((cT a).2.1 b).2.2.2 = false) (hty : parseFieldDescriptor ((cT a).2.1 b).2.2.1 = some ty)
    (hok : (ty = .int ∧ v = .null) ∨ (ty = .boolean ∧ v = .ref 1) ∨ (ty = .double ∧ v = .ref 2)) (h : xput SH a b v st I D (fun r I D => k lv r I D)) (hk : ∀ lv st I D, k lv st I D → AtM p l e R s m args below meth c cells slots Q ad dA G A SH H0 nL (pc + 3) lv st I D) : AtM p l e R s m args below meth c cells slots Q ad dA G A SH H0 nL pc lv st I D := by
  intro H locs ls hl hP hS
  obtain ⟨hin, ⟨ty0, hty0⟩, hnm⟩ := cT_ok ha
  have key : ∀ (w : Value) (q : Nat) (r : List Value) (fks : List (Nat ⊕ Bool)) (I' : MI) (D' : MD), nth SH q = some (.inl (a, fks)) → b < fks.length → narrow ty w = w → fits ty w = true → ((wld ad dA I D 0 SH).set q (ad q, .inr (a, (fvs ad I D q 0 fks).set b w)) = wld ad dA I' D' 0 SH) → AtM p l e R s m args below meth c cells slots Q ad dA G A SH H0 nL (pc + 3) lv r I' D' → W p l e R s m args below meth c H locs cells slots Q (F0 m pc ls (w :: .ref (ad q) :: r.map (cv ad))) := by
    intro w q r fks I' D' hs hb hnar hfit hset hK
    have hlen : b < (fvs ad I D q 0 fks).length := by rw [fvs_len]; exact hb
    cases z with
    | false =>
      refine va_put (D := G) (ci := a) (C := (cT a).1) (T := (cT a).2.1) (N := (cT a).2.2) B.1 B.2.1 B.2.2.2.2.1 hin ty0 hty0 hnm B.2.2.2.1 B.2.2.2.2.2.1 hP (B.2.2.2.2.2.2.1 I D) hS q (wld_at hs) (cT_at ha) b hn (B.2.2.2.2.1 _ (List.mem_filter.mpr ⟨hw, rfl⟩)) (fun _ h9 => h9) hfin hty hnar hfit hlen hd (fun H1 locs1 hP1 _ hS1 => ?_)
      rw [hset] at hP1
      exact hK H1 locs1 ls hl hP1 hS1
    | true =>
      refine va_putN (D := G) (ci := a) (C := (cT a).1) (T := (cT a).2.1) (N := (cT a).2.2) B.1 B.2.1 B.2.2.2.2.1 hin ty0 hty0 hnm B.2.2.2.1 B.2.2.2.2.2.1 hP (B.2.2.2.2.2.2.1 I D) hS q (wld_at hs) (cT_at ha) b hn (va_Nw.use rfl (B.2.2.2.2.2.2.2.2.2 _ _ _ _ _ _ hw)) (fun _ h9 => h9) hfin hty hnar hfit hlen hd (fun H1 locs1 hP1 _ hS1 => ?_)
      rw [hset] at hP1
      exact hK H1 locs1 ls hl hP1 hS1
  have lenOf : ∀ {fks : List (Nat ⊕ Bool)} {f : Nat ⊕ Bool}, nth fks b = some f → b < fks.length := by
    intro fks f hf
    rw [nth_eq] at hf
    exact (List.getElem?_eq_some_iff.mp hf).1
  unfold xput at h
  split at h
  next x q r =>
    obtain ⟨fks, hs, h2⟩ := atO_e h
    split at h2
    next hf =>
      have hset : (wld ad dA I D 0 SH).set q (ad q, .inr (a, (fvs ad I D q 0 fks).set b (.int x))) = wld ad dA (up2 I q b x) D 0 SH :=
        wld_set hs (fun i hi => up2_ne hi) (fun _ _ => rfl) (by rw [fvs_setI hf]; rfl)
      rcases hok with ⟨rfl, rfl⟩ | ⟨rfl, rfl⟩ | ⟨rfl, rfl⟩
      · exact key (.int x) q r fks _ _ hs (lenOf hf) rfl rfl hset (hk _ _ _ _ h2)
      · refine key (.int x) q r fks _ _ hs (lenOf hf) ?_ ?_ hset (hk _ _ _ _ h2.2)
        · rcases h2.1 with rfl | rfl <;> rfl
        · rcases h2.1 with rfl | rfl <;> rfl
      · exact h2.elim
    next => exact h2.elim
  next x q r =>
    obtain ⟨fks, hs, h2⟩ := atO_e h
    split at h2
    next hf =>
      have hset : (wld ad dA I D 0 SH).set q (ad q, .inr (a, (fvs ad I D q 0 fks).set b (.double x))) = wld ad dA I (up2 D q b x) 0 SH :=
        wld_set hs (fun _ _ => rfl) (fun i hi => up2_ne hi) (by rw [fvs_setD hf]; rfl)
      rcases hok with ⟨rfl, rfl⟩ | ⟨rfl, rfl⟩ | ⟨rfl, rfl⟩
      · exact h2.elim
      · exact h2.elim
      · exact key (.double x) q r fks _ _ hs (lenOf hf) rfl rfl hset (hk _ _ _ _ h2)
    next => exact h2.elim
  next => exact h.elim
theorem x_iald (B : BdX p R s m args c cells slots ad dA G A SH H0 nL cc own d SC) (hd : decode cc pc = .ok (.iaload, 1)) (h : xald SH 0 st I (fun r => k lv r I D)) (hk : ∀ lv st I D, k lv st I D → AtM p l e R s m args below meth c cells slots Q ad dA G A SH H0 nL (pc + 1) lv st I D) : AtM p l e R s m args below meth c cells slots Q ad dA G A SH H0 nL pc lv st I D := by
  intro H locs ls hl hP hS
  unfold xald at h
  split at h
  next i q r =>
    obtain ⟨n, hs, hi, h2⟩ := atA_e h
    exact va_iald B.1 B.2.1 B.2.2.2.2.2.1 hP q 0 (wld_at hs) rfl (inn_vp hi) hd (hk _ _ _ _ h2 H locs ls hl hP hS)
  next => exact h.elim
theorem x_zald (B : BdX p R s m args c cells slots ad dA G A SH H0 nL cc own d SC) (hd : decode cc pc = .ok (.baload, 1)) (h : xald SH 1 st I (fun r => k lv r I D)) (hk : ∀ lv st I D, k lv st I D → AtM p l e R s m args below meth c cells slots Q ad dA G A SH H0 nL (pc + 1) lv st I D) : AtM p l e R s m args below meth c cells slots Q ad dA G A SH H0 nL pc lv st I D := by
  intro H locs ls hl hP hS
  unfold xald at h
  split at h
  next i q r =>
    obtain ⟨n, hs, hi, h2⟩ := atA_e h
    exact va_zald B.1 B.2.1 B.2.2.2.2.2.1 hP q 1 (wld_at hs) rfl (inn_vp hi) hd (hk _ _ _ _ h2 H locs ls hl hP hS)
  next => exact h.elim
theorem x_sald (B : BdX p R s m args c cells slots ad dA G A SH H0 nL cc own d SC) (hd : decode cc pc = .ok (.saload, 1)) (h : xald SH 2 st I (fun r => k lv r I D)) (hk : ∀ lv st I D, k lv st I D → AtM p l e R s m args below meth c cells slots Q ad dA G A SH H0 nL (pc + 1) lv st I D) : AtM p l e R s m args below meth c cells slots Q ad dA G A SH H0 nL pc lv st I D := by
  intro H locs ls hl hP hS
  unfold xald at h
  split at h
  next i q r =>
    obtain ⟨n, hs, hi, h2⟩ := atA_e h
    exact va_sald B.1 B.2.1 B.2.2.2.2.2.1 hP q 2 (wld_at hs) rfl (inn_vp hi) hd (hk _ _ _ _ h2 H locs ls hl hP hS)
  next => exact h.elim
theorem x_ild (B : BdX p R s m args c cells slots ad dA G A SH H0 nL cc own d SC) (hd : decode cc pc = .ok (.iaload, 1)) (h : xild SH SC st I (fun r => k lv r I D)) (hk : ∀ lv st I D, k lv st I D → AtM p l e R s m args below meth c cells slots Q ad dA G A SH H0 nL (pc + 1) lv st I D) : AtM p l e R s m args below meth c cells slots Q ad dA G A SH H0 nL pc lv st I D := by
  unfold xild at h
  split at h
  next => exact x_iald B hd h hk
  next z =>
    intro H locs ls hl hP hS
    split at h
    next i r =>
      obtain ⟨h1, h2, h3⟩ := B.2.2.2.2.2.2.2.1 z rfl
      exact va_sld B.1 B.2.1 h1 h2 h3 hS (inn_vp h.1) hd (hk _ _ _ _ h.2 H locs ls hl hP hS)
    next => exact h.elim
theorem x_len (B : BdX p R s m args c cells slots ad dA G A SH H0 nL cc own d SC) (hd : decode cc pc = .ok (.arraylength, 1)) (h : xlen SC st (fun r => k lv r I D)) (hk : ∀ lv st I D, k lv st I D → AtM p l e R s m args below meth c cells slots Q ad dA G A SH H0 nL (pc + 1) lv st I D) : AtM p l e R s m args below meth c cells slots Q ad dA G A SH H0 nL pc lv st I D := by
  intro H locs ls hl hP hS
  unfold xlen at h
  split at h
  next z r =>
    obtain ⟨h1, h2, h3⟩ := B.2.2.2.2.2.2.2.1 z rfl
    exact va_slen B.1 B.2.1 h1 h2 h3 hS hd (hk _ _ _ _ h H locs ls hl hP hS)
  next => exact h.elim
theorem x_dald (B : BdX p R s m args c cells slots ad dA G A SH H0 nL cc own d SC) (hd : decode cc pc = .ok (.daload, 1)) (h : xdld SH st D (fun r => k lv r I D)) (hk : ∀ lv st I D, k lv st I D → AtM p l e R s m args below meth c cells slots Q ad dA G A SH H0 nL (pc + 1) lv st I D) : AtM p l e R s m args below meth c cells slots Q ad dA G A SH H0 nL pc lv st I D := by
  intro H locs ls hl hP hS
  unfold xdld at h
  split at h
  next i q r =>
    obtain ⟨n, hs, hi, h2⟩ := atA_e h
    exact va_dald B.1 B.2.1 B.2.2.2.2.2.1 hP q 3 (wld_at hs) rfl (inn_vp hi) hd (hk _ _ _ _ h2 H locs ls hl hP hS)
  next => exact h.elim
theorem x_iast (B : BdX p R s m args c cells slots ad dA G A SH H0 nL cc own d SC) (hd : decode cc pc = .ok (.iastore, 1)) (h : xast SH 0 (fun x => x) st I (fun r I => k lv r I D)) (hk : ∀ lv st I D, k lv st I D → AtM p l e R s m args below meth c cells slots Q ad dA G A SH H0 nL (pc + 1) lv st I D) : AtM p l e R s m args below meth c cells slots Q ad dA G A SH H0 nL pc lv st I D := by
  intro H locs ls hl hP hS
  unfold xast at h
  split at h
  next x i q r =>
    obtain ⟨n, hs, hi, h2⟩ := atA_e h
    refine va_iast B.1 B.2.1 B.2.2.2.2.2.1 hP (B.2.2.2.2.2.2.1 I D) hS q 0 (wld_at hs) rfl (inn_vp hi) hd (fun H1 locs1 hP1 _ hS1 => ?_)
    rw [wld_set (I' := up2 I q i.toNatClampNeg ((fun x => x) x)) (D' := D) hs (fun i hi => up2_ne hi) (fun _ _ => rfl) (by simp only [ent, up2_row]; rfl)] at hP1
    exact hk _ _ _ _ h2 H1 locs1 ls hl hP1 hS1
  next => exact h.elim
theorem x_zast (B : BdX p R s m args c cells slots ad dA G A SH H0 nL cc own d SC) (hd : decode cc pc = .ok (.bastore, 1)) (h : xast SH 1 (vp_nar .boolean) st I (fun r I => k lv r I D)) (hk : ∀ lv st I D, k lv st I D → AtM p l e R s m args below meth c cells slots Q ad dA G A SH H0 nL (pc + 1) lv st I D) : AtM p l e R s m args below meth c cells slots Q ad dA G A SH H0 nL pc lv st I D := by
  intro H locs ls hl hP hS
  unfold xast at h
  split at h
  next x i q r =>
    obtain ⟨n, hs, hi, h2⟩ := atA_e h
    refine va_zast B.1 B.2.1 B.2.2.2.2.2.1 hP (B.2.2.2.2.2.2.1 I D) hS q 1 (wld_at hs) rfl (inn_vp hi) hd (fun H1 locs1 hP1 _ hS1 => ?_)
    rw [wld_set (I' := up2 I q i.toNatClampNeg ((vp_nar .boolean) x)) (D' := D) hs (fun i hi => up2_ne hi) (fun _ _ => rfl) (by simp only [ent, up2_row]; rfl)] at hP1
    exact hk _ _ _ _ h2 H1 locs1 ls hl hP1 hS1
  next => exact h.elim
theorem x_sast (B : BdX p R s m args c cells slots ad dA G A SH H0 nL cc own d SC) (hd : decode cc pc = .ok (.sastore, 1)) (h : xast SH 2 (vp_nar .short) st I (fun r I => k lv r I D)) (hk : ∀ lv st I D, k lv st I D → AtM p l e R s m args below meth c cells slots Q ad dA G A SH H0 nL (pc + 1) lv st I D) : AtM p l e R s m args below meth c cells slots Q ad dA G A SH H0 nL pc lv st I D := by
  intro H locs ls hl hP hS
  unfold xast at h
  split at h
  next x i q r =>
    obtain ⟨n, hs, hi, h2⟩ := atA_e h
    refine va_sast B.1 B.2.1 B.2.2.2.2.2.1 hP (B.2.2.2.2.2.2.1 I D) hS q 2 (wld_at hs) rfl (inn_vp hi) hd (fun H1 locs1 hP1 _ hS1 => ?_)
    rw [wld_set (I' := up2 I q i.toNatClampNeg ((vp_nar .short) x)) (D' := D) hs (fun i hi => up2_ne hi) (fun _ _ => rfl) (by simp only [ent, up2_row]; rfl)] at hP1
    exact hk _ _ _ _ h2 H1 locs1 ls hl hP1 hS1
  next => exact h.elim
theorem x_dast (B : BdX p R s m args c cells slots ad dA G A SH H0 nL cc own d SC) (hd : decode cc pc = .ok (.dastore, 1)) (h : xdst SH st D (fun r D => k lv r I D)) (hk : ∀ lv st I D, k lv st I D → AtM p l e R s m args below meth c cells slots Q ad dA G A SH H0 nL (pc + 1) lv st I D) : AtM p l e R s m args below meth c cells slots Q ad dA G A SH H0 nL pc lv st I D := by
  intro H locs ls hl hP hS
  unfold xdst at h
  split at h
  next x i q r =>
    obtain ⟨n, hs, hi, h2⟩ := atA_e h
    refine va_dast B.1 B.2.1 B.2.2.2.2.2.1 hP (B.2.2.2.2.2.2.1 I D) hS q 3 (wld_at hs) rfl (inn_vp hi) hd (fun H1 locs1 hP1 _ hS1 => ?_)
    rw [wld_set (I' := I) (D' := up2 D q i.toNatClampNeg x) hs (fun _ _ => rfl) (fun i hi => up2_ne hi) (by simp only [ent, up2_rowD]; rfl)] at hP1
    exact hk _ _ _ _ h2 H1 locs1 ls hl hP1 hS1
  next => exact h.elim
end RH
