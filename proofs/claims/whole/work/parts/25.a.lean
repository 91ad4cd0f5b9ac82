/-! wave, survey, force -/
/-- the rows of a DRAFT are copied -/
def cpX (I : MI) (s n : Nat) : Nat → MI
  | 0 => I
  | i + 1 => up2 (cpX I s n i) 21 (24 * n + i) (I 15 (24 * s + i))
theorem cpX_o (I : MI) (s n : Nat) {k : Nat} (h : k ≠ 21) : ∀ i, cpX I s n i k = I k
  | 0 => rfl
  | i + 1 => by
    unfold cpX
    rw [up2_ne h, cpX_o I s n h i]
theorem cpX_r (I : MI) (s n : Nat) (j : Nat) : ∀ i, cpX I s n i 21 j = if 24 * n ≤ j ∧ j < 24 * n + i then I 15 (24 * s + (j - 24 * n)) else I 21 j
  | 0 => by rw [if_neg (by omega)]; rfl
  | i + 1 => by
    unfold cpX
    rw [up2_at2, cpX_r I s n j i]
    by_cases h : j = 24 * n + i
    · rw [if_pos ⟨rfl, h⟩, if_pos (by omega)]
      congr 1
      omega
    · rw [if_neg (fun z => h z.2)]
      by_cases h2 : 24 * n ≤ j ∧ j < 24 * n + i
      · rw [if_pos h2, if_pos (by omega)]
      · rw [if_neg h2, if_neg (by omega)]
def svX0 (I : MI) (s dy nw : Int32) : MI := up2 (up2 (up2 (up2 (up2 I 16 (I 2 9).toNatClampNeg s) 17 (I 2 9).toNatClampNeg dy) 18 (I 2 9).toNatClampNeg nw) 19 (I 2 9).toNatClampNeg (I 13 s.toNatClampNeg)) 20 (I 2 9).toNatClampNeg (I 14 s.toNatClampNeg)
def svX (I : MI) (s n : Nat) (dy nw : Int32) : MI := up2 (up2 (up2 (cpX (svX0 I (nI s) dy nw) s n 24) 13 s 0) 14 s 0) 2 9 (nI (n + 1))
def cpM (I : MI) (s n : Nat) : Nat → MI
  | 0 => I
  | i + 1 => up2 (up2 (up2 (cpM I s n i) 80 (8 * n + i) (I 72 (8 * s + i))) 81 (8 * n + i) (I 73 (8 * s + i))) 82 (8 * n + i) (I 74 (8 * s + i))
theorem cpM_o (I : MI) (s n : Nat) {k : Nat} (h1 : k ≠ 80) (h2 : k ≠ 81) (h3 : k ≠ 82) : ∀ i, cpM I s n i k = I k
  | 0 => rfl
  | i + 1 => by
    unfold cpM
    rw [up2_ne h3, up2_ne h2, up2_ne h1, cpM_o I s n h1 h2 h3 i]
theorem cpM_r (I : MI) (s n : Nat) (j : Nat) : ∀ i, cpM I s n i 80 j = (if 8 * n ≤ j ∧ j < 8 * n + i then I 72 (8 * s + (j - 8 * n)) else I 80 j) ∧ cpM I s n i 81 j = (if 8 * n ≤ j ∧ j < 8 * n + i then I 73 (8 * s + (j - 8 * n)) else I 81 j) ∧ cpM I s n i 82 j = (if 8 * n ≤ j ∧ j < 8 * n + i then I 74 (8 * s + (j - 8 * n)) else I 82 j)
  | 0 => by
    have h : ¬ (8 * n ≤ j ∧ j < 8 * n + 0) := by omega
    rw [if_neg h, if_neg h, if_neg h]
    exact ⟨rfl, rfl, rfl⟩
  | i + 1 => by
    unfold cpM
    obtain ⟨h1, h2, h3⟩ := cpM_r I s n j i
    simp only [up2_at2, h1, h2, h3]
    by_cases h : j = 8 * n + i
    · subst h
      simp
    · by_cases h2 : 8 * n ≤ j ∧ j < 8 * n + i
      · have h4 : 8 * n ≤ j ∧ j < 8 * n + (i + 1) := by omega
        simp [h, h2, h4]
      · have h4 : ¬ (8 * n ≤ j ∧ j < 8 * n + (i + 1)) := by omega
        simp [h, h2, h4]
def svM0 (I : MI) (s dy : Int32) : MI := up2 (up2 (up2 (up2 (up2 I 75 (I 12 8).toNatClampNeg s) 76 (I 12 8).toNatClampNeg dy) 77 (I 12 8).toNatClampNeg (I 12 0)) 78 (I 12 8).toNatClampNeg (I 70 s.toNatClampNeg)) 79 (I 12 8).toNatClampNeg (I 71 s.toNatClampNeg)
def svM (I : MI) (s n w : Nat) (dy : Int32) : MI := up2 (up2 (up2 (cpM (svM0 I (nI s) dy) s n w) 70 s 0) 71 s 0) 12 8 (nI (n + 1))
section S25
variable (g : Gp) (d : Nat) (I : MI) (D : MD)
theorem c_X_wave (s a b c : Int32) (hI : ∀ j, j < 12 → ∃ n, n ≤ 8 ∧ I 14 j = nI n) : Con g SHc (d + 1) 6 [.ref 0, .int s, .int a, .int b, .int c] I D
    (EqP (some (.int (if (wi s 0 11 && wi a 0 9999 && wi b 0 60000 && wi c 0 65535) = true then (if (I 14 s.toNatClampNeg).toNatClampNeg < 8 then nI ((I 14 s.toNatClampNeg).toNatClampNeg + 1) else -4) else -2)))
      (if (wi s 0 11 && wi a 0 9999 && wi b 0 60000 && wi c 0 65535) = true then (if (I 14 s.toNatClampNeg).toNatClampNeg < 8 then wvX I s.toNatClampNeg (I 14 s.toNatClampNeg).toNatClampNeg a b c else I) else I) D) := by
  refine Con.mk (LV := v_X_wave) k_X_wave (Nat.le_of_ble_eq_true rfl) (fun K hK => ?_)
  refine hK (0, 55, o_X_wave_0) (List.mem_of_getElem? (i := 0) rfl) _ _ _ _ ?_
  refine call_eq (c_X_isStation g d I D s) ?_
  refine And.intro (fun c1 => ?_) (fun c1 => ?_)
  · exact And.intro (by simp [bI_0.mp c1]) (And.intro (by simp [bI_0.mp c1]) (by first | rfl | simp [bI_0.mp c1]))
  refine call_eq (c_X_isWithin g d I D a 0 9999) ?_
  refine And.intro (fun c2 => ?_) (fun c2 => ?_)
  · exact And.intro (by simp [bI_0.mp c2]) (And.intro (by simp [bI_0.mp c2]) (by first | rfl | simp [bI_0.mp c2]))
  refine call_eq (c_X_isWithin g d I D b 0 60000) ?_
  refine And.intro (fun c3 => ?_) (fun c3 => ?_)
  · exact And.intro (by simp [bI_0.mp c3]) (And.intro (by simp [bI_0.mp c3]) (by first | rfl | simp [bI_0.mp c3]))
  refine call_eq (c_X_isWithin g d I D c 0 65535) ?_
  have h1 := bI_n0.mp c1
  have h2 := bI_n0.mp c2
  have h3 := bI_n0.mp c3
  refine And.intro (fun c4 => ?_) (fun c4 => ?_)
  · have h4 := bI_n0.mp c4
    obtain ⟨j, hj, rfl⟩ := wi_nI (m := 11) (by decide) h1
    obtain ⟨n, hn, he⟩ := hI j (by omega)
    refine call_eq (c_X_addWave g d I D j n (by omega) hn he a b c) ?_
    exact And.intro (by simp [h1, h2, h3, h4, nI_clamp (show j < 2 ^ 31 by omega), he, nI_clamp (show n < 2 ^ 31 by omega)]) (And.intro (by simp [h1, h2, h3, h4, nI_clamp (show j < 2 ^ 31 by omega), he, nI_clamp (show n < 2 ^ 31 by omega)]) (by first | rfl | simp [h1, h2, h3, h4, nI_clamp (show j < 2 ^ 31 by omega), he, nI_clamp (show n < 2 ^ 31 by omega)]))
  · exact And.intro (by simp [bI_0.mp c4]) (And.intro (by simp [bI_0.mp c4]) (by first | rfl | simp [bI_0.mp c4]))
theorem c_M_wave (s a b c : Int32) (hI : ∀ j, j < 12 → ∃ n, n ≤ 8 ∧ I 71 j = nI n) : Con g SHc (d + 2) 153 [.ref 12, .int s, .int a, .int b, .int c] I D
    (EqP (some (.int (if (wi s 0 11 && wi a 0 9999 && wi b 0 60000 && wi c 0 65535) = true then (if (I 71 s.toNatClampNeg).toNatClampNeg < 8 then nI ((I 71 s.toNatClampNeg).toNatClampNeg + 1) else -4) else -2)))
      (if (wi s 0 11 && wi a 0 9999 && wi b 0 60000 && wi c 0 65535) = true then (if (I 71 s.toNatClampNeg).toNatClampNeg < 8 then wvM I s.toNatClampNeg (I 71 s.toNatClampNeg).toNatClampNeg a b c else I) else I) D) := by
  refine Con.mk (LV := v_M_wave) k_M_wave (Nat.le_of_ble_eq_true rfl) (fun K hK => ?_)
  refine hK (0, 111, o_M_wave_0) (List.mem_of_getElem? (i := 0) rfl) _ _ _ _ ?_
  refine call_eq (c_M_isStation g d I D s) ?_
  refine And.intro (fun c1 => ?_) (fun c1 => ?_)
  · exact And.intro (by simp [bI_0.mp c1]) (And.intro (by simp [bI_0.mp c1]) (by first | rfl | simp [bI_0.mp c1]))
  refine call_eq (c_M_in g (d + 1) I D a 0 9999) ?_
  refine And.intro (fun c2 => ?_) (fun c2 => ?_)
  · exact And.intro (by simp [bI_0.mp c2]) (And.intro (by simp [bI_0.mp c2]) (by first | rfl | simp [bI_0.mp c2]))
  refine call_eq (c_M_in g (d + 1) I D b 0 60000) ?_
  refine And.intro (fun c3 => ?_) (fun c3 => ?_)
  · exact And.intro (by simp [bI_0.mp c3]) (And.intro (by simp [bI_0.mp c3]) (by first | rfl | simp [bI_0.mp c3]))
  refine call_eq (c_M_in g (d + 1) I D c 0 65535) ?_
  have h1 := bI_n0.mp c1
  have h2 := bI_n0.mp c2
  have h3 := bI_n0.mp c3
  refine And.intro (fun c4 => ?_) (fun c4 => ?_)
  · have h4 := bI_n0.mp c4
    obtain ⟨j, hj, rfl⟩ := wi_nI (m := 11) (by decide) h1
    obtain ⟨n, hn, he⟩ := hI j (by omega)
    have hc : (nI j).toNatClampNeg = j := nI_clamp (by omega)
    have hi : inn (nI j) 12 := inn_nI (by omega) (by decide)
    rw [h1, h2, h3, h4, hc, he, nI_clamp (show n < 2 ^ 31 by omega)]
    refine And.intro (hi) ?_
    rw [hc, he]
    refine And.intro (fun c5 => ?_) (fun c5 => ?_)
    · have c5 : n < 8 := by
        rcases Nat.lt_or_ge n 8 with h | h
        · exact h
        · exact absurd (by rw [show n = 8 by omega]; rfl) c5
      refine And.intro (hi) ?_
      rw [hc, he]
      have e1 : nI 8 * nI j + nI n = nI (8 * j + n) := nI_lin' 8 j n
      have hb : inn (nI (8 * j + n)) 96 := inn_nI (by omega) (by decide)
      refine And.intro (by rw [show (8 : Int32) = nI 8 from rfl, e1]; exact hb) ?_
      rw [show (8 : Int32) = nI 8 from rfl, e1]
      refine And.intro (hb) ?_
      refine And.intro (hb) ?_
      rw [nI_clamp (show 8 * j + n < 2 ^ 31 by omega)]
      refine And.intro (hi) ?_
      refine And.intro (hi) ?_
      refine And.intro (hi) ?_
      rw [hc]
      have e5 : I 71 j + 1 = nI (n + 1) := by rw [he]; exact nI_1 n
      refine And.intro ?_ (And.intro ?_ rfl)
      · rw [up2_at]
        refine Eq.trans (congrArg (fun z => some (Value.int z)) e5) ?_
        simp [c5]
      · refine Eq.trans (congrArg (up2 _ _ _) e5) ?_
        simp [c5, wvM]
    · have c6 : n = 8 := (nI_eq (a := n) (b := 8) (by omega) (by decide)).mp c5
      have c5 : ¬ n < 8 := by omega
      exact And.intro (by simp [c5]) (And.intro (by simp [c5]) (by first | rfl | simp [c5]))
  · exact And.intro (by simp [bI_0.mp c4]) (And.intro (by simp [bI_0.mp c4]) (by first | rfl | simp [bI_0.mp c4]))
theorem c_X_takeDraft (s n : Nat) (hs : s < 12) (hn : n ≤ 60) (hI : I 2 9 = nI n) (dy nw : Int32) : Con g SHc d 10 [.ref 2, .int (nI s), .int dy, .int nw] I D (EqP (some (.int (if n < 60 then nI (n + 1) else -4))) (if n < 60 then svX I s n dy nw else I) D) := by
  have hc : (nI s).toNatClampNeg = s := nI_clamp (by omega)
  have hi : inn (nI s) 12 := inn_nI hs (by decide)
  refine Con.mk (LV := v_Surveys_takeDraft) k_Surveys_takeDraft (Nat.le_of_ble_eq_true rfl) (fun K hK => ?_)
  refine hK (0, 75, o_Surveys_takeDraft_0) (List.mem_of_getElem? (i := 0) rfl) _ _ _ _ ?_
  refine And.intro (fun c1 => ?_) (fun c1 => ?_)
  · rw [hI] at c1
    have c1 : n < 60 := (nI_ltI (by omega) (by decide)).mp c1
    rw [if_pos c1, if_pos c1] at hK
    have hI0 : ∀ z : MI, z 2 9 = nI n → inn (z 2 9) 60 := fun z h => by rw [h]; exact inn_nI c1 (by decide)
    have loop : ∀ r i, i + r = 24 → K 75 [(0, .ref 2), (1, .int (nI s)), (4, .int (nI i))] [] (cpX (svX0 I (nI s) dy nw) s n i) D := by
      intro r
      induction r with
      | zero =>
        intro i hi0
        have hi0 : i = 24 := by omega
        subst hi0
        refine hK (75, 144, o_Surveys_takeDraft_1) (List.mem_of_getElem? (i := 1) rfl) _ _ _ _ ?_
        refine And.intro (fun c => ?_) (fun c => ?_)
        · refine And.intro (hi) ?_
          refine And.intro (hi) ?_
          rw [hc]
          have e7 : cpX (svX0 I (nI s) dy nw) s n 24 2 9 + 1 = nI (n + 1) := by rw [cpX_o _ _ _ (by decide)]; exact (congrArg (· + 1) hI).trans (nI_1 n)
          refine And.intro ?_ (And.intro ?_ rfl)
          · rw [up2_at]
            exact congrArg (fun z => some (Value.int z)) e7
          · exact congrArg (up2 _ _ _) e7
        · exact absurd (by decide) c
      | succ r ih =>
        intro i hi0
        have go := ih (i + 1) (by omega)
        rw [nI_succ] at go
        have e0 : cpX (svX0 I (nI s) dy nw) s n i 2 9 = nI n := by rw [cpX_o _ _ _ (by decide)]; exact hI
        refine hK (75, 144, o_Surveys_takeDraft_1) (List.mem_of_getElem? (i := 1) rfl) _ _ _ _ ?_
        refine And.intro (fun c => ?_) (fun c => ?_)
        · exact absurd c (nI_ge (b := 24) (by omega) (by decide))
        · have e1 : nI n * 24 + nI i = nI (24 * n + i) := by rw [show (24 : Int32) = nI 24 from rfl, pk_mul, nI_add, Nat.mul_comm]
          have e2 : nI s * 24 + nI i = nI (24 * s + i) := by rw [show (24 : Int32) = nI 24 from rfl, pk_mul, nI_add, Nat.mul_comm]
          refine And.intro (by rw [e2]; exact inn_nI (by omega) (by decide)) ?_
          refine And.intro (by rw [e0, e1]; exact inn_nI (by omega) (by decide)) ?_
          rw [e0, e1, e2, nI_clamp (show 24 * n + i < 2 ^ 31 by omega), nI_clamp (show 24 * s + i < 2 ^ 31 by omega), cpX_o _ _ _ (by decide)]
          exact go
    refine And.intro (hI0 I hI) ?_
    refine And.intro (hI0 _ hI) ?_
    refine And.intro (hI0 _ hI) ?_
    refine And.intro (hi) ?_
    refine And.intro (hI0 _ hI) ?_
    refine And.intro (hi) ?_
    refine And.intro (hI0 _ hI) ?_
    exact loop 24 0 (by omega)
  · rw [hI] at c1
    have c1 : ¬ n < 60 := fun h => c1 ((nI_ltI (by omega) (by decide)).mpr h)
    rw [if_neg c1, if_neg c1]
    exact And.intro rfl (And.intro rfl rfl)
theorem c_X_survey (s dy : Int32) (n : Nat) (hn : n ≤ 60) (hI : I 2 9 = nI n) : Con g SHc (d + 1) 8 [.ref 0, .int s, .int dy] I D
    (EqP (some (.int (if (wi s 0 11 && wi dy 0 29) = true then (if n < 60 then nI (n + 1) else -4) else -2))) (if (wi s 0 11 && wi dy 0 29) = true then (if n < 60 then svX I s.toNatClampNeg n dy (I 0 11) else I) else I) D) := by
  refine Con.mk (LV := v_X_survey) k_X_survey (Nat.le_of_ble_eq_true rfl) (fun K hK => ?_)
  refine hK (0, 31, o_X_survey_0) (List.mem_of_getElem? (i := 0) rfl) _ _ _ _ ?_
  refine call_eq (c_X_isStation g d I D s) ?_
  refine And.intro (fun c1 => ?_) (fun c1 => ?_)
  · exact And.intro (by simp [bI_0.mp c1]) (And.intro (by simp [bI_0.mp c1]) (by first | rfl | simp [bI_0.mp c1]))
  refine call_eq (c_X_isDay g d I D dy) ?_
  have h1 := bI_n0.mp c1
  refine And.intro (fun c2 => ?_) (fun c2 => ?_)
  · have h2 := bI_n0.mp c2
    obtain ⟨j, hj, rfl⟩ := wi_nI (m := 11) (by decide) h1
    refine call_eq (c_X_takeDraft g d I D j n (by omega) hn hI dy (I 0 11)) ?_
    exact And.intro (by simp [h1, h2, nI_clamp (show j < 2 ^ 31 by omega)]) (And.intro (by simp [h1, h2, nI_clamp (show j < 2 ^ 31 by omega)]) (by first | rfl | simp [h1, h2, nI_clamp (show j < 2 ^ 31 by omega)]))
  · exact And.intro (by simp [bI_0.mp c2]) (And.intro (by simp [bI_0.mp c2]) (by first | rfl | simp [bI_0.mp c2]))
theorem c_M_survey (s dy : Int32) (n : Nat) (hn : n ≤ 60) (hI : I 12 8 = nI n) (hW : ∀ j, j < 12 → ∃ w, w ≤ 8 ∧ I 71 j = nI w) : Con g SHc (d + 2) 154 [.ref 12, .int s, .int dy] I D
    (EqP (some (.int (if (wi s 0 11 && wi dy 0 29) = true then (if n < 60 then nI (n + 1) else -4) else -2))) (if (wi s 0 11 && wi dy 0 29) = true then (if n < 60 then svM I s.toNatClampNeg n (I 71 s.toNatClampNeg).toNatClampNeg dy else I) else I) D) := by
  refine Con.mk (LV := v_M_survey) k_M_survey (Nat.le_of_ble_eq_true rfl) (fun K hK => ?_)
  refine hK (0, 97, o_M_survey_0) (List.mem_of_getElem? (i := 0) rfl) _ _ _ _ ?_
  refine call_eq (c_M_isStation g d I D s) ?_
  refine And.intro (fun c1 => ?_) (fun c1 => ?_)
  · exact And.intro (by simp [bI_0.mp c1]) (And.intro (by simp [bI_0.mp c1]) (by first | rfl | simp [bI_0.mp c1]))
  refine call_eq (c_M_in g (d + 1) I D dy 0 29) ?_
  have h1 := bI_n0.mp c1
  refine And.intro (fun c2 => ?_) (fun c2 => ?_)
  · have h2 := bI_n0.mp c2
    obtain ⟨j, hj, rfl⟩ := wi_nI (m := 11) (by decide) h1
    obtain ⟨w, hw, hwe⟩ := hW j (by omega)
    have hc : (nI j).toNatClampNeg = j := nI_clamp (by omega)
    have hi : inn (nI j) 12 := inn_nI (by omega) (by decide)
    rw [hc, hwe, nI_clamp (show w < 2 ^ 31 by omega), h1, h2] at hK
    rw [hc, hwe, nI_clamp (show w < 2 ^ 31 by omega), h1, h2]
    refine And.intro (fun c3 => ?_) (fun c3 => ?_)
    · rw [hI] at c3
      have c3 : n < 60 := by
        rcases Nat.lt_or_ge n 60 with h | h
        · exact h
        · exact absurd (by rw [show n = 60 by omega]; rfl) c3
      rw [if_pos (show (true && true) = true from rfl), if_pos (show (true && true) = true from rfl), if_pos c3, if_pos c3] at hK
      have hI0 : ∀ z : MI, z 12 8 = nI n → inn (z 12 8) 60 := fun z h => by rw [h]; exact inn_nI c3 (by decide)
      have loop : ∀ r i, i + r = w → K 97 [(0, .ref 12), (1, .int (nI j)), (3, .int (nI i))] [] (cpM (svM0 I (nI j) dy) j n i) D := by
        intro r
        induction r with
        | zero =>
          intro i hi0
          have hi0 : i = w := by omega
          subst hi0
          have e6 : cpM (svM0 I (nI j) dy) j n i 71 j = nI i := by rw [cpM_o _ _ _ (by decide) (by decide) (by decide)]; exact hwe
          refine hK (97, 217, o_M_survey_1) (List.mem_of_getElem? (i := 1) rfl) _ _ _ _ ?_
          refine And.intro (hi) ?_
          rw [hc, e6]
          refine And.intro (fun c => ?_) (fun c => ?_)
          · refine And.intro (hi) ?_
            refine And.intro (hi) ?_
            rw [hc]
            have e7 : cpM (svM0 I (nI j) dy) j n i 12 8 + 1 = nI (n + 1) := by rw [cpM_o _ _ _ (by decide) (by decide) (by decide)]; exact (congrArg (· + 1) hI).trans (nI_1 n)
            refine And.intro ?_ (And.intro ?_ rfl)
            · rw [up2_at]
              exact congrArg (fun z => some (Value.int z)) e7
            · exact congrArg (up2 _ _ _) e7
          · exact absurd (nI_le (Nat.le_refl _) (by omega)) c
        | succ r ih =>
          intro i hi0
          have go := ih (i + 1) (by omega)
          rw [nI_succ] at go
          have e0 : ∀ k, k ≠ 80 → k ≠ 81 → k ≠ 82 → cpM (svM0 I (nI j) dy) j n i k = svM0 I (nI j) dy k := fun k a b c => cpM_o _ _ _ a b c i
          have e6 : cpM (svM0 I (nI j) dy) j n i 71 j = nI w := by rw [cpM_o _ _ _ (by decide) (by decide) (by decide)]; exact hwe
          have e8 : cpM (svM0 I (nI j) dy) j n i 12 8 = nI n := by rw [cpM_o _ _ _ (by decide) (by decide) (by decide)]; exact hI
          have e1 : 8 * nI n + nI i = nI (8 * n + i) := nI_lin' 8 n i
          have e2 : 8 * nI j + nI i = nI (8 * j + i) := nI_lin' 8 j i
          have b1 : inn (nI (8 * n + i)) 480 := inn_nI (by omega) (by decide)
          have b2 : inn (nI (8 * j + i)) 96 := inn_nI (by omega) (by decide)
          have b9 : inn (8 * (cpM (svM0 I (nI j) dy) j n i 12 8) + nI i) 480 := by rw [e8, e1]; exact b1
          refine hK (97, 217, o_M_survey_1) (List.mem_of_getElem? (i := 1) rfl) _ _ _ _ ?_
          refine And.intro (hi) ?_
          rw [hc, e6]
          refine And.intro (fun c => ?_) (fun c => ?_)
          · exact absurd c (nI_ge (by omega) (by omega))
          · refine And.intro (by rw [e2]; exact b2) ?_
            refine And.intro (by rw [e8, e1]; exact b1) ?_
            refine And.intro (by rw [e2]; exact b2) ?_
            refine And.intro (b9) ?_
            refine And.intro (by rw [e2]; exact b2) ?_
            refine And.intro (b9) ?_
            have z1 : (8 * (cpM (svM0 I (nI j) dy) j n i 12 8) + nI i).toNatClampNeg = 8 * n + i := by rw [e8, e1]; exact nI_clamp (by omega)
            have z2 : (8 * nI j + nI i).toNatClampNeg = 8 * j + i := by rw [e2]; exact nI_clamp (by omega)
            have z3 : cpM (svM0 I (nI j) dy) j n i 72 = svM0 I (nI j) dy 72 := e0 _ (by decide) (by decide) (by decide)
            have z4 : cpM (svM0 I (nI j) dy) j n i 73 = svM0 I (nI j) dy 73 := e0 _ (by decide) (by decide) (by decide)
            have z5 : cpM (svM0 I (nI j) dy) j n i 74 = svM0 I (nI j) dy 74 := e0 _ (by decide) (by decide) (by decide)
            have key : cpM (svM0 I (nI j) dy) j n (i + 1) = up2 (up2 (up2 (cpM (svM0 I (nI j) dy) j n i) 80 (8 * (cpM (svM0 I (nI j) dy) j n i 12 8) + nI i).toNatClampNeg (cpM (svM0 I (nI j) dy) j n i 72 (8 * nI j + nI i).toNatClampNeg)) 81 (8 * (cpM (svM0 I (nI j) dy) j n i 12 8) + nI i).toNatClampNeg (cpM (svM0 I (nI j) dy) j n i 73 (8 * nI j + nI i).toNatClampNeg)) 82 (8 * (cpM (svM0 I (nI j) dy) j n i 12 8) + nI i).toNatClampNeg (cpM (svM0 I (nI j) dy) j n i 74 (8 * nI j + nI i).toNatClampNeg) := by
              rw [z1, z2, z3, z4, z5]
              rfl
            rw [key] at go
            exact go
      refine And.intro (hI0 I hI) ?_
      refine And.intro (hI0 _ hI) ?_
      refine And.intro (hI0 _ hI) ?_
      refine And.intro (hi) ?_
      refine And.intro (hI0 _ hI) ?_
      refine And.intro (hi) ?_
      refine And.intro (hI0 _ hI) ?_
      exact loop w 0 (by omega)
    · rw [hI] at c3
      have c4 : n = 60 := (nI_eq (a := n) (b := 60) (by omega) (by decide)).mp c3
      have c3 : ¬ n < 60 := by omega
      exact And.intro (by simp [c3]) (And.intro (by simp [c3]) (by first | rfl | simp [c3]))
  · exact And.intro (by simp [bI_0.mp c2]) (And.intro (by simp [bI_0.mp c2]) (by first | rfl | simp [bI_0.mp c2]))
end S25
