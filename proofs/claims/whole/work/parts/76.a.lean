/-! one PASSAGE is planned -/
def seF (mn : Nat → Int32) (fr : Nat → Bool) : Nat → Nat → Nat × Int32
  | 0, _ => (0, 0)
  | q + 1, m => if mn m < -10 then (1, mn m) else if mn m = 1 ∧ fr m = true then (1, 1) else ((seF mn fr q (m + 1)).1 + 1, (seF mn fr q (m + 1)).2)
theorem mtB_c {sh lk co co' at' bt' : Nat → Int32} {r r' li lj i j : Nat} (hi : i < li) (hj : j < lj) (hc : ∀ i, i < li → co i = co' i) (ha : ∀ j, j < lj → at' j = bt' j) : mtB sh lk co at' r r' li lj i j = mtB sh lk co' bt' r r' li lj i j := by
  unfold mtB
  rw [hc i hi, ha j hj]
  by_cases h1 : i + 1 < li
  · by_cases h2 : j + 1 < lj
    · rw [hc (i + 1) h1, ha (j + 1) h2]
    · rw [decide_eq_false h2, Bool.and_false, Bool.false_and, Bool.false_and]
  · rw [decide_eq_false h1, Bool.false_and, Bool.false_and, Bool.false_and]
theorem mtA_c {sh lk co co' at' bt' : Nat → Int32} {r r' li lj : Nat} (hc : ∀ i, i < li → co i = co' i) (ha : ∀ j, j < lj → at' j = bt' j) : mtA sh lk co at' r r' li lj = mtA sh lk co' bt' r r' li lj := by
  unfold mtA
  exact anyB_c (fun i hi => anyB_c (fun j hj => mtB_c hi hj hc ha))
/-- whether no voyage that has a start is together with this minute's -/
def frG (sh lk ds lg rt st pp : Nat → Int32) (r n : Nat) (pc : Int32) (m : Nat) : Bool := !anyB (fun q => !decide (st q = -1) && mtA sh lk (fun i => cmF (60 * nI m) (ds (4 * r + i)) pc) (fun j => 60 * st q + ds (4 * (rt q).toNatClampNeg + j) * 100 / pp q) r (rt q).toNatClampNeg (lg r).toNatClampNeg (lg (rt q).toNatClampNeg).toNatClampNeg) n
def pmF (pat : Int32) : Int32 := if pat < 120 then pat else 120
def enE (fr : Nat) (pat : Int32) : Int32 := if nI fr + pmF pat < 43200 then nI fr + pmF pat else 43200
def cntF (fr : Nat) (pat : Int32) : Nat := ((enE fr pat).toInt - fr).toNat
theorem enE_le (fr : Nat) (pat : Int32) : (enE fr pat).toInt ≤ 43200 := by
  unfold enE
  split
  next h =>
    rw [i32_lt, show ((43200 : Int32)).toInt = 43200 by decide] at h
    omega
  next => decide
theorem cnt_lt {fr i : Nat} {pat : Int32} (hf : fr < 43200) : (i < cntF fr pat ↔ nI (fr + i) < enE fr pat ∧ fr + i < 43200) ∨ 2 ^ 30 ≤ fr + i := by
  rcases Nat.lt_or_ge (fr + i) (2 ^ 30) with h | h
  · refine Or.inl ?_
    have := enE_le fr pat
    unfold cntF
    rw [i32_lt, nI_toInt (by omega)]
    omega
  · exact Or.inr h
section S76
variable (g : Gp) (d : Nat) (I : MI) (D : MD)
/-- X: what a PASSAGE with a start keeps is when it comes -/
def HC (I : MI) (pp : Nat → Int32) (n : Nat) : Prop := ∀ q, q < n → ¬ I 66 q = -1 → ∀ j, j < (I 50 (I 63 q).toNatClampNeg).toNatClampNeg → I 68 (4 * q + j) = 60 * I 66 q + I 52 (4 * (I 63 q).toNatClampNeg + j) * 100 / pp q
abbrev frX (I : MI) (pp : Nat → Int32) (r n : Nat) (pc : Int32) : Nat → Bool := frG (I 51) (I 31) (I 52) (I 50) (I 63) (I 66) pp r n pc
theorem maX_fr {pp : Nat → Int32} {n r m : Nat} {pc : Int32} (hc : HC I pp n) (hco : ∀ i, i < (I 50 r).toNatClampNeg → I 54 i = coX I r (nI m) pc i) : maX I r n = !frX I pp r n pc m := by
  unfold maX frX frG
  rw [Bool.not_not]
  refine anyB_c (fun q hq => ?_)
  by_cases h : I 66 q = -1
  · rw [decide_eq_true h, Bool.not_true, Bool.false_and, Bool.false_and]
  · rw [decide_eq_false h, Bool.not_false, Bool.true_and, Bool.true_and]
    exact mtA_c hco (hc q hq h)
/-- what keepComing leaves -/
def kcF (p : Nat) (co : Nat → Int32) (H : Nat → Int32) : Nat → (Nat → Int32)
  | 0 => H
  | i + 1 => up1 (kcF p co H i) (4 * p + i) (co i)
theorem kcF_at (p : Nat) (co H : Nat → Int32) : ∀ i q, kcF p co H i q = if 4 * p ≤ q ∧ q < 4 * p + i then co (q - 4 * p) else H q
  | 0, q => by rw [if_neg (by omega)]; rfl
  | i + 1, q => by
    show up1 (kcF p co H i) (4 * p + i) (co i) q = _
    unfold up1
    by_cases h : q = 4 * p + i
    · rw [if_pos h, if_pos (by omega), h]
      congr 1
      omega
    · rw [if_neg h, kcF_at p co H i q]
      by_cases h2 : 4 * p ≤ q ∧ q < 4 * p + i
      · rw [if_pos h2, if_pos (by omega)]
      · rw [if_neg h2, if_neg (by omega)]
theorem c_X_keepComing (p : Nat) (hp : p < 40) : Con g SHc d 134 [.ref 11, .int (nI p)] I D (EqP none (upc I 68 (kcF p (I 54) (I 68) 4)) D) := by
  refine Con.mk (LV := v_Passages_keepComing) k_Passages_keepComing (Nat.le_of_ble_eq_true rfl) (fun K hK => ?_)
  have loop : ∀ k i, i + k = 4 → K 2 [(0, .ref 11), (1, .int (nI p)), (2, .int (nI i))] [] (upc I 68 (kcF p (I 54) (I 68) i)) D := by
    intro k
    induction k with
    | zero =>
      intro i hi
      have hi : i = 4 := by omega
      subst hi
      refine hK (2, 33, o_Passages_keepComing_1) (List.mem_of_getElem? (i := 1) rfl) _ _ _ _ ?_
      refine And.intro (fun c => ?_) (fun c => ?_)
      · exact And.intro rfl (And.intro rfl rfl)
      · exact absurd (show nI 4 ≤ nI 4 from nI_le (Nat.le_refl _) (by decide)) c
    | succ k ih =>
      intro i hi
      have e3 : nI p * 4 + nI i = nI (4 * p + i) := by rw [show (4 : Int32) = nI 4 from rfl, pk_mul, nI_add, Nat.mul_comm p 4]
      have go := ih (i + 1) (by omega)
      rw [nI_succ, show kcF p (I 54) (I 68) (i + 1) = up1 (kcF p (I 54) (I 68) i) (4 * p + i) (I 54 i) from rfl, ← upc_up2] at go
      refine hK (2, 33, o_Passages_keepComing_1) (List.mem_of_getElem? (i := 1) rfl) _ _ _ _ ?_
      refine And.intro (fun c => ?_) (fun c => ?_)
      · exact absurd (show nI 4 ≤ nI i from c) (nI_ge (by omega) (by omega))
      refine And.intro (inn_nI (by omega) (by decide)) ?_
      refine And.intro (by rw [e3]; exact inn_nI (by omega) (by decide)) ?_
      rw [e3, nI_clamp (show 4 * p + i < 2 ^ 31 by omega), nI_clamp (show i < 2 ^ 31 by omega)]
      exact go
  refine hK (0, 2, o_Passages_keepComing_0) (List.mem_of_getElem? (i := 0) rfl) _ _ _ _ ?_
  have go := loop 4 0 (by omega)
  rw [show kcF p (I 54) (I 68) 0 = I 68 from rfl, upc_self] at go
  exact go
/-- PASSAGES as they are told -/
def PX (I : MI) (n ms : Nat) : Prop := n ≤ 40 ∧ I 11 13 = nI n ∧ ∀ p, p < n → ∃ s r f, s < ms ∧ I 62 p = nI s ∧ r < 6 ∧ I 63 p = nI r ∧ f < 43200 ∧ I 64 p = nI f
def seX (I : MI) (n m tk fd b np : Nat) (pp : Nat → Int32) (s : Int32) (r f : Nat) (w pat : Int32) : Nat × Int32 := seF (fun q => minX I n m tk fd b r s (nI q) w) (frX I pp r np (askX I 2 5 s).2.1) (cntF f pat) f
/-- what settle() leaves -/
def stP (I : MI) (D : MD) (T : Tr) (p r f : Nat) (r3 : AskR) (se : Nat × Int32) (bs : List Int32) (pc : Int32) : Po := fun o J E => ∃ sc' sd', E = ovD D sd' ∧ (¬ r3.1 = 0 ∧ o = some (.int 0) ∧ J = ovX (tellX r3.1 (trX (up2 I 67 p 0) (begsT T r3.2.2))) sc' ∨ r3.1 = 0 ∧ ¬ se.2 = 1 ∧ o = some (.int 0) ∧ J = ovX (tellA se.2 (trX (up2 I 67 p 0) (bsT (begsT T r3.2.2) bs se.1))) sc' ∨ r3.1 = 0 ∧ se.2 = 1 ∧ o = some (.int 1) ∧ ∃ co, (∀ i, i < (I 50 r).toNatClampNeg → co i = coX I r (nI (f + se.1 - 1)) pc i) ∧ J = ovX (trX (upc (up2 (up2 I 67 p 0) 66 p (nI (f + se.1 - 1))) 68 (kcF p co (I 68) 4)) (bsT (begsT T r3.2.2) bs se.1)) sc')
theorem minX_f {n m tk fd b r : Nat} {s mi w : Int32} (hR : RX I) (hr : r < 6) : minX I n m tk fd b r s mi w = 1 ∨ minX I n m tk fd b r s mi w = 0 ∨ minX I n m tk fd b r s mi w = -3 ∨ minX I n m tk fd b r s mi w < -10 := by
  obtain ⟨l, hl, hle, hlg⟩ := hR r hr
  unfold minX miF
  split
  next h =>
    refine Or.inr (Or.inr (Or.inr ?_))
    rcases askF_c (I 42) (I 43) (I 44) (I 45) (I 46) (I 47) 0 5 s with q | q | q
    · exact absurd q h
    · rw [q]; decide
    · rw [q]; decide
  · split
    next h =>
      refine Or.inr (Or.inr (Or.inr ?_))
      rcases askF_c (I 42) (I 43) (I 44) (I 45) (I 46) (I 47) 2 5 s with q | q | q
      · exact absurd q h
      · rw [q]; decide
      · rw [q]; decide
    · split
      next h =>
        refine Or.inr (Or.inr (Or.inr ?_))
        rcases askF_c (I 42) (I 43) (I 44) (I 45) (I 46) (I 47) 4 5 s with q | q | q
        · exact absurd q h
        · rw [q]; decide
        · rw [q]; decide
      · split
        · exact Or.inr (Or.inr (Or.inl rfl))
        · have hall : ∀ (co lg : Nat → Int32) (k i : Nat), (∀ j, i ≤ j → j < i + k → lg j = 0 ∨ lg j = 1 ∨ lg j = -1 ∨ lg j = -7 ∨ lg j = -2) → tmF co lg k i = 1 ∨ tmF co lg k i = 0 ∨ tmF co lg k i = -3 ∨ tmF co lg k i < -10 := by
            intro co lg k
            induction k with
            | zero => intro i _; exact Or.inl rfl
            | succ k ih =>
              intro i hj
              unfold tmF
              split
              · exact Or.inr (Or.inr (Or.inl rfl))
              · split
                · exact ih (i + 1) (fun j h1 h2 => hj j (by omega) (by omega))
                next h =>
                  rcases hj i (by omega) (by omega) with q | q | q | q | q
                  · rw [q]; exact Or.inr (Or.inl rfl)
                  · exact absurd q h
                  · rw [q]; exact Or.inr (Or.inr (Or.inr (by decide)))
                  · rw [q]; exact Or.inr (Or.inr (Or.inr (by decide)))
                  · rw [q]; exact Or.inr (Or.inr (Or.inr (by decide)))
          refine hall _ _ _ _ (fun j _ hj => ?_)
          rw [hle, nI_clamp (by omega)] at hj
          obtain ⟨q, s', a, hq, hqe, hs', hse, -⟩ := hlg j (by omega)
          exact lgXf_c I n m tk fd b _ _ _ _ _ ⟨s', hs', by rw [hqe, nI_clamp (show q < 2 ^ 31 by omega)]; exact hse⟩
set_option maxHeartbeats 2000000 in
theorem c_X_settle {n m tk fd b h ms np : Nat} (hB : KX I n m tk fd b h) (hR : RX I) (hW : WX I) (hms : ms ≤ 40) (hP : shOk (I 42) (I 46) (I 47) ms) (hPX : PX I np ms) (pp : Nat → Int32) (hHC : HC I pp np) (p s r f : Nat) (hp : p < np) (hs : s < ms) (hse : I 62 p = nI s) (hr : r < 6) (hre : I 63 p = nI r) (hf : f < 43200) (hfe : I 64 p = nI f) (w : Int32) (T : Tr) (hT : T.1 ≤ 100) (sc : MI) (sd : MD) : Con g SHc (d + 16) 129 [.ref 11, .int (nI p), .int w] (ovX (trX I T) sc) (ovD D sd) (stP I D T p r f (askX I 3 5 (nI s)) (seX I n m tk fd b np pp (nI s) r f w (askX I 3 5 (nI s)).2.1) (bdX I (nI s)) (askX I 2 5 (nI s)).2.1) := by
  refine Con.mk (LV := v_Passages_settle) k_Passages_settle (Nat.le_of_ble_eq_true rfl) (fun K hK => ?_)
  have hp40 : inn (nI p) 40 := inn_nI (Nat.lt_of_lt_of_le hp hPX.1) (by decide)
  have hn40 := hPX.1
  have pc : (nI p).toNatClampNeg = p := nI_clamp (by omega)
  have hix : ix (nI s) (nI ms) = true := by
    unfold ix
    rw [decide_eq_true (nI_pos' (by omega)), decide_eq_true (nI_lt hs (by omega))]
    rfl
  have hT1 : (begsT T (askX I 3 5 (nI s)).2.2).1 ≤ 100 := begsT_le _ hT
  have hA : ∀ sc', Con g SHc (d + 15) 79 [.ref 6, .int (nI s), .int 3, .int 0] (ovX (trX (up2 I 67 p 0) T) sc') (ovD D sd) (asP (up2 I 67 p 0) (ovD D sd) T sc' (askX I 3 5 (nI s))) := fun sc' => c_X_askFor g (d + 2) (up2 I 67 p 0) (ovD D sd) ms hms hP 3 (by decide) 5 0 rfl (nI s) T sc' (ix_sh hix) hT (Or.inl rfl)
  have f3 := askF_c (I 42) (I 43) (I 44) (I 45) (I 46) (I 47) 3 5 (nI s)
  unfold seX at hK
  generalize askX I 3 5 (nI s) = r3 at hK hA hT1 f3
  obtain ⟨V, hV⟩ : ∃ V, V = seF (fun q => minX I n m tk fd b r (nI s) (nI q) w) (frX I pp r np (askX I 2 5 (nI s)).2.1) (cntF f r3.2.1) f := ⟨_, rfl⟩
  rw [← hV] at hK
  have loop : r3.1 = 0 → ∀ q i sc sd, i + q = cntF f r3.2.1 → V = (i + (seF (fun q => minX I n m tk fd b r (nI s) (nI q) w) (frX I pp r np (askX I 2 5 (nI s)).2.1) q (f + i)).1, (seF (fun q => minX I n m tk fd b r (nI s) (nI q) w) (frX I pp r np (askX I 2 5 (nI s)).2.1) q (f + i)).2) → K 78 [(0, .ref 11), (1, .int (nI p)), (2, .int w), (4, .int (enE f r3.2.1)), (5, .int (nI (f + i)))] [] (ovX (trX (up2 I 67 p 0) (bsT (begsT T r3.2.2) (bdX I (nI s)) i)) sc) (ovD D sd) := by
    intro h30 q
    have hel := enE_le f r3.2.1
    induction q with
    | zero =>
      intro i sc sd hi hv
      have hv : V = (i, 0) := hv
      have hcn : cntF f r3.2.1 = ((enE f r3.2.1).toInt - f).toNat := rfl
      refine hK (78, 160, o_Passages_settle_1) (List.mem_of_getElem? (i := 1) rfl) _ _ _ _ ?_
      refine And.intro (fun c => ?_) (fun c => ?_)
      · rw [hv]
        exact And.intro (Or.inl rfl) ⟨sc, sd, rfl, Or.inr (Or.inl ⟨h30, (by decide : ¬ (0 : Int32) = 1), rfl, rfl⟩)⟩
      · exfalso
        have c := i32_nle.mp c
        rw [i32_lt, nI_toInt (by omega)] at c
        omega
    | succ q ih =>
      intro i sc sd hi hv
      have hcn : cntF f r3.2.1 = ((enE f r3.2.1).toInt - f).toNat := rfl
      have hfi : f + i < 43200 := by omega
      have hmf := minX_f I (n := n) (m := m) (tk := tk) (fd := fd) (b := b) (s := nI s) (mi := nI (f + i)) (w := w) hR hr
      have nxt : seF (fun q => minX I n m tk fd b r (nI s) (nI q) w) (frX I pp r np (askX I 2 5 (nI s)).2.1) (q + 1) (f + i) = if minX I n m tk fd b r (nI s) (nI (f + i)) w < -10 then (1, minX I n m tk fd b r (nI s) (nI (f + i)) w) else if minX I n m tk fd b r (nI s) (nI (f + i)) w = 1 ∧ frX I pp r np (askX I 2 5 (nI s)).2.1 (f + i) = true then (1, 1) else ((seF (fun q => minX I n m tk fd b r (nI s) (nI q) w) (frX I pp r np (askX I 2 5 (nI s)).2.1) q (f + i + 1)).1 + 1, (seF (fun q => minX I n m tk fd b r (nI s) (nI q) w) (frX I pp r np (askX I 2 5 (nI s)).2.1) q (f + i + 1)).2) := rfl
      rw [nxt] at hv
      have hTi : (bsT (begsT T r3.2.2) (bdX I (nI s)) i).1 ≤ 100 := bsT_le hT1 _ i
      have hC : Con g SHc (d + 15) 117 [.ref 8, .int (nI s), .int (nI r), .int (nI (f + i)), .int w] (ovX (trX (up2 I 67 p 0) (bsT (begsT T r3.2.2) (bdX I (nI s)) i)) sc) (ovD D sd) (mnP (up2 I 67 p 0) D (bsT (begsT T r3.2.2) (bdX I (nI s)) i) (minX I n m tk fd b r (nI s) (nI (f + i)) w) (bdX I (nI s)) r (nI (f + i)) (askX I 2 5 (nI s)).2.1) := c_X_tryMinute g (d + 1) (up2 I 67 p 0) D hB hR hW hms hP (nI s) hix r (f + i) hr hfi w _ hTi sc sd
      have go : ∀ sc sd, V = (i + 1 + (seF (fun q => minX I n m tk fd b r (nI s) (nI q) w) (frX I pp r np (askX I 2 5 (nI s)).2.1) q (f + (i + 1))).1, (seF (fun q => minX I n m tk fd b r (nI s) (nI q) w) (frX I pp r np (askX I 2 5 (nI s)).2.1) q (f + (i + 1))).2) → _ := fun sc sd hv => ih (i + 1) sc sd (by omega) hv
      refine hK (78, 160, o_Passages_settle_1) (List.mem_of_getElem? (i := 1) rfl) _ _ _ _ ?_
      refine And.intro (fun c => ?_) (fun c => ?_)
      · exfalso
        rw [i32_le, nI_toInt (by omega)] at c
        omega
      refine And.intro (hp40) ?_
      refine And.intro (hp40) ?_
      rw [pc, show ovX (trX (up2 I 67 p 0) (bsT (begsT T r3.2.2) (bdX I (nI s)) i)) sc 62 p = nI s from hse, show ovX (trX (up2 I 67 p 0) (bsT (begsT T r3.2.2) (bdX I (nI s)) i)) sc 63 p = nI r from hre]
      refine call_of hC ?_
      rintro o J E ⟨sc2, sd2, rfl, rfl, rfl, hco⟩
      generalize minX I n m tk fd b r (nI s) (nI (f + i)) w = A at hv hmf hco ⊢
      by_cases hA10 : A < -10
      · rw [if_pos hA10] at hv
        refine And.intro (fun z => absurd hA10 (i32_nlt.mpr z)) (fun _ => ?_)
        rw [hv]
        refine And.intro (Or.inl rfl) ⟨sc2, sd2, rfl, Or.inr (Or.inl ⟨h30, ?_, rfl, rfl⟩)⟩
        intro z
        rw [show A = 1 from z] at hA10
        exact absurd hA10 (by decide)
      · rw [if_neg hA10] at hv
        refine And.intro (fun _ => ?_) (fun z => absurd (i32_nlt.mp hA10) z)
        have et : ∀ X, tellA A X = X := fun X => by unfold tellA; rw [if_neg hA10]
        rw [et]
        refine And.intro (fun c2 => ?_) (fun c2 => ?_)
        · rw [if_neg (fun z => c2 z.1)] at hv
          have g9 := go sc2 sd2 (by rw [hv]; exact Prod.ext ((fun x => by omega : ∀ x : Nat, i + (x + 1) = i + 1 + x) _) rfl)
          rw [show f + (i + 1) = f + i + 1 from rfl, nI_succ] at g9
          exact g9
        refine And.intro (hp40) ?_
        rw [pc, show ovX (trX (up2 I 67 p 0) (begsT (bsT (begsT T r3.2.2) (bdX I (nI s)) i) (bdX I (nI s)))) sc2 63 p = nI r from hre]
        have hma : Con g SHc (d + 15) 130 [.ref 11, .int (nI r)] (ovX (trX (up2 I 67 p 0) (begsT (bsT (begsT T r3.2.2) (bdX I (nI s)) i) (bdX I (nI s)))) sc2) (ovD D sd2) (EqP (some (.int (bI (!frX I pp r np (askX I 2 5 (nI s)).2.1 (f + i))))) (ovX (trX (up2 I 67 p 0) (begsT (bsT (begsT T r3.2.2) (bdX I (nI s)) i) (bdX I (nI s)))) sc2) (ovD D sd2)) := by
          have h9 := c_X_meetsAny g (d + 13) (ovX (trX (up2 I 67 p 0) (begsT (bsT (begsT T r3.2.2) (bdX I (nI s)) i) (bdX I (nI s)))) sc2) (ovD D sd2) hR r np hr hPX.1 hPX.2.1 (fun p' hp' => by
            obtain ⟨s', r', f', -, -, z1, z2, -⟩ := hPX.2.2 p' hp'
            exact ⟨r', z1, z2⟩)
          rw [maX_fr (ovX (trX (up2 I 67 p 0) (begsT (bsT (begsT T r3.2.2) (bdX I (nI s)) i) (bdX I (nI s)))) sc2) (pp := pp) (m := f + i) (pc := (askX I 2 5 (nI s)).2.1) hHC (hco c2)] at h9
          exact h9
        refine call_eq (hma) ?_
        refine And.intro (fun c3 => ?_) (fun c3 => ?_)
        · have h3 := bI_n0.mp c3
          rw [if_neg (fun z => by rw [z.2] at h3; exact absurd h3 (by decide))] at hv
          have g9 := go sc2 sd2 (by rw [hv]; exact Prod.ext ((fun x => by omega : ∀ x : Nat, i + (x + 1) = i + 1 + x) _) rfl)
          rw [show f + (i + 1) = f + i + 1 from rfl, nI_succ] at g9
          exact g9
        · have h3 := bI_0.mp c3
          rw [if_pos ⟨c2, by simpa using h3⟩] at hv
          refine And.intro (hp40) ?_
          rw [pc, ov_n2 _ _ _ _ _ (by rfl)]
          refine call_eq (c_X_keepComing g (d + 15) _ (ovD D sd2) p (by omega)) ?_
          rw [hv]
          refine And.intro (Or.inr rfl) ⟨sc2, sd2, rfl, Or.inr (Or.inr ⟨h30, rfl, rfl, sc2 54, ?_, ?_⟩)⟩
          · rw [show f + (i + 1) - 1 = f + i by omega]
            exact hco c2
          · rw [show f + (i + 1) - 1 = f + i by omega, ov_nc _ _ _ _ (fun _ => rfl), show bsT (begsT T r3.2.2) (bdX I (nI s)) (i + 1) = begsT (bsT (begsT T r3.2.2) (bdX I (nI s)) i) (bdX I (nI s)) from rfl]
            congr 1
            unfold trX
            funext x y
            simp only [up2_at2, upc_at]
            by_cases h1 : x = 49
            · subst h1; simp
            · by_cases h2 : x = 68
              · subst h2; simp
                rfl
              · by_cases h3 : x = 66
                · subst h3; simp
                · simp [h1, h2, h3]
  refine hK (0, 78, o_Passages_settle_0) (List.mem_of_getElem? (i := 0) rfl) _ _ _ _ ?_
  refine And.intro (hp40) ?_
  rw [pc, nar_0, ov_n2 _ _ _ _ _ (by rfl)]
  have etr : up2 (trX I T) 67 p 0 = trX (up2 I 67 p 0) T := by
    unfold trX
    funext x y
    simp only [up2_at2, upc_at]
    by_cases h1 : x = 67
    · subst h1; simp
    · simp [h1]
  rw [etr]
  refine And.intro (hp40) ?_
  rw [pc, show ovX (trX (up2 I 67 p 0) T) sc 62 p = nI s from hse]
  refine call_of (hA sc) ?_
  rintro o J E ⟨rfl, rfl, v, rfl, hv⟩
  have ef : ovX (trX (up2 I 67 p 0) (begsT T r3.2.2)) (up2 sc 6 10 r3.1) 6 10 = r3.1 := by
    show up2 sc 6 10 r3.1 6 10 = r3.1
    rw [up2_at]
  refine And.intro (fun c1 => ?_) (fun c1 => ?_)
  · rw [ef] at c1
    rw [hv c1]
    refine And.intro (hp40) ?_
    rw [pc, show ovX (trX (up2 I 67 p 0) (begsT T r3.2.2)) (up2 sc 6 10 r3.1) 64 p = nI f from hfe]
    refine call_eq (c_X_min g (d + 15) _ (ovD D sd) 120 r3.2.1) ?_
    refine call_eq (c_X_min g (d + 15) _ (ovD D sd) 43200 _) ?_
    refine And.intro (hp40) ?_
    rw [pc, show ovX (trX (up2 I 67 p 0) (begsT T r3.2.2)) (up2 sc 6 10 r3.1) 64 p = nI f from hfe]
    exact loop c1 (cntF f r3.2.1) 0 _ sd (by omega) (by rw [hV, Nat.zero_add]; rfl)
  · rw [ef] at c1
    refine call_eq (c_X_tell g (d + 15) _ (ovD D sd) _) ?_
    rw [ef, tellX_ov]
    exact And.intro (Or.inl rfl) ⟨_, sd, rfl, Or.inl ⟨c1, rfl, rfl⟩⟩
end S76
