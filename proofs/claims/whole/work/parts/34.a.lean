/-- k places of a FLEET become NOTHING -/
def clP (c f : Nat) (I : MI) : Nat → MI
  | 0 => I
  | i + 1 => up2 (clP c f I i) c (8 * f + i) (-1)
theorem clP_o (c f : Nat) (I : MI) {k : Nat} (h : k ≠ c) : ∀ i, clP c f I i k = I k
  | 0 => rfl
  | i + 1 => by
    unfold clP
    rw [up2_ne h, clP_o c f I h i]
theorem clP_r (c f : Nat) (I : MI) (j : Nat) : ∀ i, clP c f I i c j = if 8 * f ≤ j ∧ j < 8 * f + i then -1 else I c j
  | 0 => by rw [if_neg (by omega)]; rfl
  | i + 1 => by
    unfold clP
    rw [up2_at2, clP_r c f I j i]
    by_cases h : j = 8 * f + i
    · rw [if_pos ⟨rfl, h⟩, if_pos (by omega)]
    · rw [if_neg (fun z => h z.2)]
      by_cases h2 : 8 * f ≤ j ∧ j < 8 * f + i
      · rw [if_pos h2, if_pos (by omega)]
      · rw [if_neg h2, if_neg (by omega)]
def mkX (I : MI) (f n : Nat) (so : Int32) : MI := clP 58 f (up2 (up2 (up2 I 55 f 1) 56 f so) 57 f (nI n)) n
def mkM (I : MI) (f n : Nat) (so : Int32) : MI := clP 112 f (up2 (up2 I 110 f so) 111 f (nI n)) 8
section S34
variable (g : Gp) (d : Nat) (I : MI) (D : MD)
theorem c_X_make (f n : Nat) (hf : f < 4) (hn : n ≤ 8) (so : Int32) : Con g SHc d 94 [.ref 9, .int (nI f), .int so, .int (nI n)] I D (EqP none (mkX I f n so) D) := by
  have hc : (nI f).toNatClampNeg = f := nI_clamp (by omega)
  have hi : inn (nI f) 4 := inn_nI hf (by decide)
  refine Con.mk (LV := v_Fleets_make) k_Fleets_make (Nat.le_of_ble_eq_true rfl) (fun K hK => ?_)
  have loop : ∀ r i, i + r = n → K 24 [(0, .ref 9), (1, .int (nI f)), (3, .int (nI n)), (4, .int (nI i))] [] (clP 58 f (up2 (up2 (up2 I 55 f 1) 56 f so) 57 f (nI n)) i) D := by
    intro r
    induction r with
    | zero =>
      intro i hi0
      have hi0 : i = n := by omega
      subst hi0
      refine hK (24, 50, o_Fleets_make_1) (List.mem_of_getElem? (i := 1) rfl) _ _ _ _ ?_
      refine And.intro (fun c => ?_) (fun c => ?_)
      · exact And.intro rfl (And.intro rfl rfl)
      · exact absurd (nI_le (Nat.le_refl _) (by omega)) c
    | succ r ih =>
      intro i hi0
      have go := ih (i + 1) (by omega)
      rw [nI_succ] at go
      have e1 : nI f * 8 + nI i = nI (8 * f + i) := by rw [show (8 : Int32) = nI 8 from rfl, pk_mul, nI_add, Nat.mul_comm]
      refine hK (24, 50, o_Fleets_make_1) (List.mem_of_getElem? (i := 1) rfl) _ _ _ _ ?_
      refine And.intro (fun c => ?_) (fun c => ?_)
      · exact absurd c (nI_ge (by omega) (by omega))
      · refine And.intro (by rw [e1]; exact inn_nI (by omega) (by decide)) ?_
        rw [e1, nI_clamp (show 8 * f + i < 2 ^ 31 by omega)]
        exact go
  refine hK (0, 24, o_Fleets_make_0) (List.mem_of_getElem? (i := 0) rfl) _ _ _ _ ?_
  refine And.intro (hi) ?_
  refine And.intro (hi) ?_
  refine And.intro (hi) ?_
  rw [hc]
  exact loop n 0 (by omega)
theorem c_X_fleet (f so n : Int32) : Con g SHc (d + 1) 92 [.ref 0, .int f, .int so, .int n] I D (EqP (some (.int (if (wi f 0 3 && wi so 0 5 && decide (n ≤ 8)) = true then (if 3000 ≤ I 1 0 then -4 else if n < 0 then -15 else 1) else -2))) (if (wi f 0 3 && wi so 0 5 && decide (n ≤ 8)) = true then (if 3000 ≤ I 1 0 then I else if n < 0 then tellX 5 I else mkX I f.toNatClampNeg n.toNatClampNeg so) else I) D) := by
  refine Con.mk (LV := v_X_fleet) k_X_fleet (Nat.le_of_ble_eq_true rfl) (fun K hK => ?_)
  refine hK (0, 63, o_X_fleet_0) (List.mem_of_getElem? (i := 0) rfl) _ _ _ _ ?_
  refine call_eq (c_X_isFleet g d I D f) ?_
  refine And.intro (fun c1 => ?_) (fun c1 => ?_)
  · exact And.intro (by simp [bI_0.mp c1]) (And.intro (by first | (simp [bI_0.mp c1]; done) | (simp [bI_0.mp c1]; rfl)) (by first | rfl | simp [bI_0.mp c1]))
  refine call_eq (c_X_isWithin g d I D so 0 5) ?_
  refine And.intro (fun c2 => ?_) (fun c2 => ?_)
  · exact And.intro (by simp [bI_0.mp c2]) (And.intro (by first | (simp [bI_0.mp c2]; done) | (simp [bI_0.mp c2]; rfl)) (by first | rfl | simp [bI_0.mp c2]))
  have h1 := bI_n0.mp c1
  have h2 := bI_n0.mp c2
  refine And.intro (fun c3 => ?_) (fun c3 => ?_)
  · refine call_eq (c_X_areSpent g d I D) ?_
    refine And.intro (fun c4 => ?_) (fun c4 => ?_)
    · have h4 : ¬ 3000 ≤ I 1 0 := of_decide_eq_false (bI_0.mp c4)
      refine And.intro (fun c5 => ?_) (fun c5 => ?_)
      · obtain ⟨j, hj, rfl⟩ := wi_nI (m := 3) (by decide) h1
        obtain ⟨k, hk, rfl⟩ := nI_of (x := n) (i32_nlt.mpr c5)
        have hk8 : k ≤ 8 := (nI_leI hk (by decide)).mp c3
        refine call_eq (c_X_make g d I D j k (by omega) hk8 so) ?_
        exact And.intro (by simp [h1, h2, c3, h4, i32_nlt.mpr c5, nI_clamp (show j < 2 ^ 31 by omega), nI_clamp hk]) (And.intro (by first | (simp [h1, h2, c3, h4, i32_nlt.mpr c5, nI_clamp (show j < 2 ^ 31 by omega), nI_clamp hk]; done) | (simp [h1, h2, c3, h4, i32_nlt.mpr c5, nI_clamp (show j < 2 ^ 31 by omega), nI_clamp hk]; rfl)) (by first | rfl | simp [h1, h2, c3, h4, i32_nlt.mpr c5, nI_clamp (show j < 2 ^ 31 by omega), nI_clamp hk]))
      · refine call_eq (c_X_tell g d I D 5) ?_
        exact And.intro (by simp [h1, h2, c3, h4, i32_nle.mp c5]) (And.intro (by first | (simp [h1, h2, c3, h4, i32_nle.mp c5]; done) | (simp [h1, h2, c3, h4, i32_nle.mp c5]; rfl)) (by first | rfl | simp [h1, h2, c3, h4, i32_nle.mp c5]))
    · exact And.intro (by simp [h1, h2, c3, of_decide_eq_true (bI_n0.mp c4)]) (And.intro (by first | (simp [h1, h2, c3, of_decide_eq_true (bI_n0.mp c4)]; done) | (simp [h1, h2, c3, of_decide_eq_true (bI_n0.mp c4)]; rfl)) (by first | rfl | simp [h1, h2, c3, of_decide_eq_true (bI_n0.mp c4)]))
  · exact And.intro (by simp [h1, h2, c3]) (And.intro (by first | (simp [h1, h2, c3]; done) | (simp [h1, h2, c3]; rfl)) (by first | rfl | simp [h1, h2, c3]))
theorem c_M_fleet (f so n : Int32) : Con g SHc (d + 2) 215 [.ref 12, .int f, .int so, .int n] I D (EqP (some (.int (if (wi f 0 3 && wi so 0 5 && decide (n ≤ 8)) = true then (if 3000 ≤ I 12 2 then -4 else if n < 0 then -15 else 1) else -2))) (if (wi f 0 3 && wi so 0 5 && decide (n ≤ 8)) = true then (if 3000 ≤ I 12 2 then I else if n < 0 then tellM 5 I else mkM I f.toNatClampNeg n.toNatClampNeg so) else I) D) := by
  refine Con.mk (LV := v_M_fleet) k_M_fleet (Nat.le_of_ble_eq_true rfl) (fun K hK => ?_)
  refine hK (0, 62, o_M_fleet_0) (List.mem_of_getElem? (i := 0) rfl) _ _ _ _ ?_
  refine call_eq (c_M_isFleet g d I D f) ?_
  refine And.intro (fun c1 => ?_) (fun c1 => ?_)
  · exact And.intro (by simp [bI_0.mp c1]) (And.intro (by first | (simp [bI_0.mp c1]; done) | (simp [bI_0.mp c1]; rfl)) (by first | rfl | simp [bI_0.mp c1]))
  refine call_eq (c_M_in g (d + 1) I D so 0 5) ?_
  refine And.intro (fun c2 => ?_) (fun c2 => ?_)
  · exact And.intro (by simp [bI_0.mp c2]) (And.intro (by first | (simp [bI_0.mp c2]; done) | (simp [bI_0.mp c2]; rfl)) (by first | rfl | simp [bI_0.mp c2]))
  have h1 := bI_n0.mp c1
  have h2 := bI_n0.mp c2
  refine And.intro (fun c3 => ?_) (fun c3 => ?_)
  · refine call_eq (c_M_isFull g (d + 1) I D) ?_
    refine And.intro (fun c4 => ?_) (fun c4 => ?_)
    · have h4 : ¬ 3000 ≤ I 12 2 := of_decide_eq_false (bI_0.mp c4)
      refine And.intro (fun c5 => ?_) (fun c5 => ?_)
      · obtain ⟨j, hj, rfl⟩ := wi_nI (m := 3) (by decide) h1
        obtain ⟨k, hk, rfl⟩ := nI_of (x := n) (i32_nlt.mpr c5)
        have hk8 : k ≤ 8 := (nI_leI hk (by decide)).mp c3
        have hc : (nI j).toNatClampNeg = j := nI_clamp (by omega)
        have hi : inn (nI j) 4 := inn_nI (by omega) (by decide)
        have c6 := i32_nlt.mpr c5
        simp only [h1, h2, c3, h4, c6, Bool.true_and, decide_true, if_true, if_false, hc, nI_clamp hk] at hK
        have loop : ∀ r i, i + r = 8 → K 62 [(0, .ref 12), (1, .int (nI j)), (4, .int (nI i))] [] (clP 112 j (up2 (up2 I 110 j so) 111 j (nI k)) i) D := by
          intro r
          induction r with
          | zero =>
            intro i hi0
            have hi0 : i = 8 := by omega
            subst hi0
            refine hK (62, 90, o_M_fleet_1) (List.mem_of_getElem? (i := 1) rfl) _ _ _ _ ?_
            refine And.intro (fun c => ?_) (fun c => ?_)
            · exact And.intro rfl (And.intro rfl rfl)
            · exact absurd (by decide) c
          | succ r ih =>
            intro i hi0
            have go := ih (i + 1) (by omega)
            rw [nI_succ] at go
            have e1 : 8 * nI j + nI i = nI (8 * j + i) := nI_lin' 8 j i
            refine hK (62, 90, o_M_fleet_1) (List.mem_of_getElem? (i := 1) rfl) _ _ _ _ ?_
            refine And.intro (fun c => ?_) (fun c => ?_)
            · exact absurd c (nI_ge (b := 8) (by omega) (by decide))
            · refine And.intro (by rw [e1]; exact inn_nI (by omega) (by decide)) ?_
              rw [e1, nI_clamp (show 8 * j + i < 2 ^ 31 by omega)]
              exact go
        refine And.intro (hi) ?_
        refine And.intro (hi) ?_
        rw [hc]
        exact loop 8 0 (by omega)
      · refine call_eq (c_M_fails g (d + 1) I D 5) ?_
        exact And.intro (by simp [h1, h2, c3, h4, i32_nle.mp c5]) (And.intro (by first | (simp [h1, h2, c3, h4, i32_nle.mp c5]; done) | (simp [h1, h2, c3, h4, i32_nle.mp c5]; rfl)) (by first | rfl | simp [h1, h2, c3, h4, i32_nle.mp c5]))
    · exact And.intro (by simp [h1, h2, c3, of_decide_eq_true (bI_n0.mp c4)]) (And.intro (by first | (simp [h1, h2, c3, of_decide_eq_true (bI_n0.mp c4)]; done) | (simp [h1, h2, c3, of_decide_eq_true (bI_n0.mp c4)]; rfl)) (by first | rfl | simp [h1, h2, c3, of_decide_eq_true (bI_n0.mp c4)]))
  · exact And.intro (by simp [h1, h2, c3]) (And.intro (by first | (simp [h1, h2, c3]; done) | (simp [h1, h2, c3]; rfl)) (by first | rfl | simp [h1, h2, c3]))
/-- how many SHIPS stand in places -/
def stF (pl : Nat → Int32) (f : Nat) : Nat → Nat
  | 0 => 0
  | i + 1 => stF pl f i + (if pl (8 * f + i) = -1 then 0 else 1)
theorem stF_le (pl : Nat → Int32) (f : Nat) : ∀ i, stF pl f i ≤ i
  | 0 => Nat.le_refl _
  | i + 1 => by
    have := stF_le pl f i
    unfold stF
    split <;> omega
theorem stF_y {pl : Nat → Int32} {f i : Nat} (h : pl (8 * f + i) = -1) : stF pl f (i + 1) = stF pl f i := by simp [stF, h]
theorem stF_n {pl : Nat → Int32} {f i : Nat} (h : ¬ pl (8 * f + i) = -1) : stF pl f (i + 1) = stF pl f i + 1 := by simp [stF, h]
theorem c_X_standing (f n : Nat) (hf : f < 4) (hn : n ≤ 8) (hI : I 57 f = nI n) : Con g SHc d 104 [.ref 9, .int (nI f)] I D (EqP (some (.int (nI (stF (I 58) f n)))) I D) := by
  have hc : (nI f).toNatClampNeg = f := nI_clamp (by omega)
  have hi : inn (nI f) 4 := inn_nI hf (by decide)
  refine Con.mk (LV := v_Fleets_standing) k_Fleets_standing (Nat.le_of_ble_eq_true rfl) (fun K hK => ?_)
  have loop : ∀ r i, i + r = n → K 4 [(0, .ref 9), (1, .int (nI f)), (2, .int (nI (stF (I 58) f i))), (3, .int (nI i))] [] I D := by
    intro r
    induction r with
    | zero =>
      intro i hi0
      have hi0 : i = n := by omega
      subst hi0
      refine hK (4, 40, o_Fleets_standing_1) (List.mem_of_getElem? (i := 1) rfl) _ _ _ _ ?_
      refine And.intro (hi) ?_
      rw [hc, hI]
      refine And.intro (fun c => ?_) (fun c => ?_)
      · exact And.intro rfl (And.intro rfl rfl)
      · exact absurd (nI_le (Nat.le_refl _) (by omega)) c
    | succ r ih =>
      intro i hi0
      have go := ih (i + 1) (by omega)
      rw [nI_succ] at go
      have e1 : nI f * 8 + nI i = nI (8 * f + i) := by rw [show (8 : Int32) = nI 8 from rfl, pk_mul, nI_add, Nat.mul_comm]
      refine hK (4, 40, o_Fleets_standing_1) (List.mem_of_getElem? (i := 1) rfl) _ _ _ _ ?_
      refine And.intro (hi) ?_
      rw [hc, hI]
      refine And.intro (fun c => ?_) (fun c => ?_)
      · exact absurd c (nI_ge (by omega) (by omega))
      · refine And.intro (by rw [e1]; exact inn_nI (by omega) (by decide)) ?_
        rw [e1, nI_clamp (show 8 * f + i < 2 ^ 31 by omega)]
        refine And.intro (fun c2 => ?_) (fun c2 => ?_)
        · rw [stF_y c2] at go
          exact go
        · rw [stF_n c2, nI_succ] at go
          exact go
  refine hK (0, 4, o_Fleets_standing_0) (List.mem_of_getElem? (i := 0) rfl) _ _ _ _ ?_
  exact loop n 0 (by omega)
theorem c_X_isNothing (f : Nat) (hf : f < 4) : Con g SHc d 100 [.ref 9, .int (nI f)] I D (EqP (some (.int (bI (decide (I 55 f = 0))))) I D) := by
  have hc : (nI f).toNatClampNeg = f := nI_clamp (by omega)
  refine Con.mk (LV := v_Fleets_isNothing) k_Fleets_isNothing (Nat.le_of_ble_eq_true rfl) (fun K hK => ?_)
  refine hK (0, 15, o_Fleets_isNothing_0) (List.mem_of_getElem? (i := 0) rfl) _ _ _ _ ?_
  refine And.intro (inn_nI hf (by decide)) ?_
  rw [hc]
  refine And.intro (fun c1 => ?_) (fun c1 => ?_)
  · exact And.intro (by decide) (And.intro (by simp [c1, bI]) (And.intro rfl rfl))
  · exact And.intro (by decide) (And.intro (by simp [c1, bI]) (And.intro rfl rfl))
theorem c_X_shared (hF : ∀ j, j < 4 → ∃ n, n ≤ 8 ∧ I 57 j = nI n) (f c : Int32) : Con g SHc (d + 1) 103 [.ref 0, .int f, .int c] I D (EqP (some (.int (if (wi f 0 3 && wi c 0 1000000) = true then (if 3000 ≤ I 1 0 then -4 else if I 55 f.toNatClampNeg = 0 then -11 else if stF (I 58) f.toNatClampNeg (I 57 f.toNatClampNeg).toNatClampNeg = 0 then -14 else 1) else -2))) (if (wi f 0 3 && wi c 0 1000000) = true then (if 3000 ≤ I 1 0 then I else if I 55 f.toNatClampNeg = 0 then tellX 1 I else if stF (I 58) f.toNatClampNeg (I 57 f.toNatClampNeg).toNatClampNeg = 0 then tellX 4 I else up2 I 0 12 (c / nI (stF (I 58) f.toNatClampNeg (I 57 f.toNatClampNeg).toNatClampNeg))) else I) D) := by
  refine Con.mk (LV := v_X_shared) k_X_shared (Nat.le_of_ble_eq_true rfl) (fun K hK => ?_)
  refine hK (0, 85, o_X_shared_0) (List.mem_of_getElem? (i := 0) rfl) _ _ _ _ ?_
  refine call_eq (c_X_isFleet g d I D f) ?_
  refine And.intro (fun c1 => ?_) (fun c1 => ?_)
  · exact And.intro (by simp [bI_0.mp c1]) (And.intro (by first | (simp [bI_0.mp c1]; done) | (simp [bI_0.mp c1]; rfl)) (by first | rfl | simp [bI_0.mp c1]))
  refine call_eq (c_X_isWithin g d I D c 0 1000000) ?_
  have h1 := bI_n0.mp c1
  refine And.intro (fun c2 => ?_) (fun c2 => ?_)
  · have h2 := bI_n0.mp c2
    obtain ⟨j, hj, rfl⟩ := wi_nI (m := 3) (by decide) h1
    have hc : (nI j).toNatClampNeg = j := nI_clamp (by omega)
    obtain ⟨n, hn, he⟩ := hF j (by omega)
    rw [h1, h2, hc, he, nI_clamp (show n < 2 ^ 31 by omega)]
    refine call_eq (c_X_areSpent g d I D) ?_
    refine And.intro (fun c3 => ?_) (fun c3 => ?_)
    · have h3 : ¬ 3000 ≤ I 1 0 := of_decide_eq_false (bI_0.mp c3)
      refine call_eq (c_X_isNothing g d I D j (by omega)) ?_
      refine And.intro (fun c4 => ?_) (fun c4 => ?_)
      · have h4 : ¬ I 55 j = 0 := of_decide_eq_false (bI_0.mp c4)
        refine call_eq (c_X_standing g d I D j n (by omega) hn he) ?_
        have hle := stF_le (I 58) j n
        refine And.intro (fun c5 => ?_) (fun c5 => ?_)
        · have h5 : ¬ stF (I 58) j n = 0 := fun z => c5 (by rw [z]; rfl)
          refine And.intro (c5) ?_
          exact And.intro (by simp [h3, h4, h5]) (And.intro (by first | (simp [h3, h4, h5]; done) | (simp [h3, h4, h5]; rfl)) (by first | rfl | simp [h3, h4, h5]))
        · have h5 : stF (I 58) j n = 0 := (nI_eq (b := 0) (by omega) (by decide)).mp c5
          refine call_eq (c_X_tell g d I D 4) ?_
          exact And.intro (by simp [h3, h4, h5]) (And.intro (by first | (simp [h3, h4, h5]; done) | (simp [h3, h4, h5]; rfl)) (by first | rfl | simp [h3, h4, h5]))
      · have h4 : I 55 j = 0 := of_decide_eq_true (bI_n0.mp c4)
        refine call_eq (c_X_tell g d I D 1) ?_
        exact And.intro (by simp [h3, h4]) (And.intro (by first | (simp [h3, h4]; done) | (simp [h3, h4]; rfl)) (by first | rfl | simp [h3, h4]))
    · exact And.intro (by simp [of_decide_eq_true (bI_n0.mp c3)]) (And.intro (by first | (simp [of_decide_eq_true (bI_n0.mp c3)]; done) | (simp [of_decide_eq_true (bI_n0.mp c3)]; rfl)) (by first | rfl | simp [of_decide_eq_true (bI_n0.mp c3)]))
  · exact And.intro (by simp [bI_0.mp c2]) (And.intro (by first | (simp [bI_0.mp c2]; done) | (simp [bI_0.mp c2]; rfl)) (by first | rfl | simp [bI_0.mp c2]))
theorem c_M_shared (hF : ∀ j, j < 4 → ∃ n, n ≤ 8 ∧ (I 111 j = -1 ∨ I 111 j = nI n)) (f c : Int32) : Con g SHc (d + 2) 222 [.ref 12, .int f, .int c] I D (EqP (some (.int (if (wi f 0 3 && wi c 0 1000000) = true then (if 3000 ≤ I 12 2 then -4 else if I 111 f.toNatClampNeg = -1 then -11 else if stF (I 112) f.toNatClampNeg (I 111 f.toNatClampNeg).toNatClampNeg = 0 then -14 else 1) else -2))) (if (wi f 0 3 && wi c 0 1000000) = true then (if 3000 ≤ I 12 2 then I else if I 111 f.toNatClampNeg = -1 then tellM 1 I else if stF (I 112) f.toNatClampNeg (I 111 f.toNatClampNeg).toNatClampNeg = 0 then tellM 4 I else up2 I 12 56 (c / nI (stF (I 112) f.toNatClampNeg (I 111 f.toNatClampNeg).toNatClampNeg))) else I) D) := by
  refine Con.mk (LV := v_M_shared) k_M_shared (Nat.le_of_ble_eq_true rfl) (fun K hK => ?_)
  refine hK (0, 52, o_M_shared_0) (List.mem_of_getElem? (i := 0) rfl) _ _ _ _ ?_
  refine call_eq (c_M_isFleet g d I D f) ?_
  refine And.intro (fun c1 => ?_) (fun c1 => ?_)
  · exact And.intro (by simp [bI_0.mp c1]) (And.intro (by first | (simp [bI_0.mp c1]; done) | (simp [bI_0.mp c1]; rfl)) (by first | rfl | simp [bI_0.mp c1]))
  refine call_eq (c_M_in g (d + 1) I D c 0 1000000) ?_
  have h1 := bI_n0.mp c1
  refine And.intro (fun c2 => ?_) (fun c2 => ?_)
  · have h2 := bI_n0.mp c2
    obtain ⟨j, hj, rfl⟩ := wi_nI (m := 3) (by decide) h1
    have hc : (nI j).toNatClampNeg = j := nI_clamp (by omega)
    have hi : inn (nI j) 4 := inn_nI (by omega) (by decide)
    obtain ⟨n, hn, he⟩ := hF j (by omega)
    refine call_eq (c_M_isFull g (d + 1) I D) ?_
    refine And.intro (fun c3 => ?_) (fun c3 => ?_)
    · have h3 : ¬ 3000 ≤ I 12 2 := of_decide_eq_false (bI_0.mp c3)
      refine And.intro (hi) ?_
      rw [hc]
      refine And.intro (fun c4 => ?_) (fun c4 => ?_)
      · have he := he.resolve_left c4
        have hne := nI_neg1 (show n < 2 ^ 31 by omega)
        simp only [h1, h2, h3, hc, he, hne, Bool.true_and, if_true, if_false, nI_clamp (show n < 2 ^ 31 by omega)] at hK
        have loop : ∀ r i, i + r = n → K 52 [(0, .ref 12), (1, .int (nI j)), (2, .int c), (3, .int (nI (stF (I 112) j i))), (4, .int (nI i))] [] I D := by
          intro r
          induction r with
          | zero =>
            intro i hi0
            have hi0 : i = n := by omega
            subst hi0
            have hle := stF_le (I 112) j i
            refine hK (52, 112, o_M_shared_1) (List.mem_of_getElem? (i := 1) rfl) _ _ _ _ ?_
            refine And.intro (hi) ?_
            rw [hc, he]
            refine And.intro (fun cc => ?_) (fun cc => ?_)
            · refine And.intro (fun c5 => ?_) (fun c5 => ?_)
              · have h5 : ¬ stF (I 112) j i = 0 := fun z => c5 (by rw [z]; rfl)
                refine And.intro (c5) ?_
                exact And.intro (by simp [h5]) (And.intro (by first | (simp [h5]; done) | (simp [h5]; rfl)) (by first | rfl | simp [h5]))
              · have h5 : stF (I 112) j i = 0 := (nI_eq (b := 0) (by omega) (by decide)).mp c5
                refine call_eq (c_M_fails g (d + 1) I D 4) ?_
                exact And.intro (by simp [h5]) (And.intro (by first | (simp [h5]; done) | (simp [h5]; rfl)) (by first | rfl | simp [h5]))
            · exact absurd (nI_le (Nat.le_refl _) (by omega)) cc
          | succ r ih =>
            intro i hi0
            have go := ih (i + 1) (by omega)
            rw [nI_succ] at go
            have e1 : 8 * nI j + nI i = nI (8 * j + i) := nI_lin' 8 j i
            refine hK (52, 112, o_M_shared_1) (List.mem_of_getElem? (i := 1) rfl) _ _ _ _ ?_
            refine And.intro (hi) ?_
            rw [hc, he]
            refine And.intro (fun cc => ?_) (fun cc => ?_)
            · exact absurd cc (nI_ge (by omega) (by omega))
            · refine And.intro (by rw [e1]; exact inn_nI (by omega) (by decide)) ?_
              rw [e1, nI_clamp (show 8 * j + i < 2 ^ 31 by omega)]
              refine And.intro (fun c5 => ?_) (fun c5 => ?_)
              · rw [stF_n c5, nI_succ] at go
                exact go
              · rw [stF_y c5] at go
                exact go
        exact loop n 0 (by omega)
      · refine call_eq (c_M_fails g (d + 1) I D 1) ?_
        exact And.intro (by simp [h1, h2, h3, c4, hc]) (And.intro (by first | (simp [h1, h2, h3, c4, hc]; done) | (simp [h1, h2, h3, c4, hc]; rfl)) (by first | rfl | simp [h1, h2, h3, c4, hc]))
    · exact And.intro (by simp [h1, h2, of_decide_eq_true (bI_n0.mp c3)]) (And.intro (by first | (simp [h1, h2, of_decide_eq_true (bI_n0.mp c3)]; done) | (simp [h1, h2, of_decide_eq_true (bI_n0.mp c3)]; rfl)) (by first | rfl | simp [h1, h2, of_decide_eq_true (bI_n0.mp c3)]))
  · exact And.intro (by simp [bI_0.mp c2]) (And.intro (by first | (simp [bI_0.mp c2]; done) | (simp [bI_0.mp c2]; rfl)) (by first | rfl | simp [bI_0.mp c2]))
end S34
