/-- a SHIP of kind k is one of KIND a -/
def ofK (k a : Int32) : Bool := decide (k = a) || (decide (k = 2) && decide (a = 0)) || (decide (k = 3) && decide (a = 1))
/-- a place of a SORT takes a SHIP -/
def tkB (kd : Nat → Int32) (so sh : Int32) : Bool := decide (sh = -1) || decide (so = 5) || ofK (kd sh.toNatClampNeg) so
/-- a SHIP of n, or NOTHING -/
def shN (sh : Int32) (n : Nat) : Bool := decide (sh = -1) || ix sh (nI n)
theorem shN_or {sh : Int32} {n : Nat} (hn : n < 2 ^ 31) : (decide (-1 ≤ sh) && decide (sh < nI n)) = shN sh n := by
  unfold shN ix
  by_cases h : sh = -1
  · subst h
    have : ((-1 : Int32)) < nI n := by
      rw [i32_lt, nI_toInt hn]
      have : ((-1 : Int32)).toInt = -1 := by decide
      omega
    simp [this]
  · have h1 : (-1 ≤ sh) ↔ 0 ≤ sh := by
      rw [i32_le, i32_le]
      have e1 : ((-1 : Int32)).toInt = -1 := by decide
      have e2 : ((0 : Int32)).toInt = 0 := by decide
      have h2 : sh.toInt ≠ -1 := fun z => h (Int32.toInt_inj.mp (by rw [z, e1]))
      omega
    simp [h, h1]
/-- what a FLEET has against its place i: fs its size, below 0: there is none -/
def ffA (sd i sz : Int32) : Int32 := if sd = 0 then 1 else if ix i sz = true then 0 else 2
section S33
variable (g : Gp) (d : Nat) (I : MI) (D : MD)
theorem c_X_isOf (j : Nat) (hj : j < 40) (a : Int32) : Con g SHc d 85 [.ref 6, .int (nI j), .int a] I D (EqP (some (.int (bI (ofK (I 42 j) a)))) I D) := by
  have hc : (nI j).toNatClampNeg = j := nI_clamp (by omega)
  have hi : inn (nI j) 40 := inn_nI hj (by decide)
  refine Con.mk (LV := v_Ships_isOf) k_Ships_isOf (Nat.le_of_ble_eq_true rfl) (fun K hK => ?_)
  refine hK (0, 45, o_Ships_isOf_0) (List.mem_of_getElem? (i := 0) rfl) _ _ _ _ ?_
  refine And.intro (hi) ?_
  rw [hc]
  refine And.intro (fun c1 => ?_) (fun c1 => ?_)
  · exact And.intro (by decide) (And.intro (by simp [ofK, c1, bI]) (And.intro rfl rfl))
  refine And.intro (hi) ?_
  rw [hc]
  refine And.intro (fun c2 => ?_) (fun c2 => ?_)
  · refine And.intro (hi) ?_
    rw [hc]
    refine And.intro (fun c3 => ?_) (fun c3 => ?_)
    · exact And.intro (by decide) (And.intro (by simp [ofK, c1, c2, c3, bI]) (And.intro rfl rfl))
    refine And.intro (fun c4 => ?_) (fun c4 => ?_)
    · exact And.intro (by decide) (And.intro (by simp [ofK, c1, c2, c4, bI]) (And.intro rfl rfl))
    · exact And.intro (by decide) (And.intro (by simp [ofK, c3, c4, bI]) (And.intro rfl rfl))
  refine And.intro (fun c3 => ?_) (fun c3 => ?_)
  · exact And.intro (by decide) (And.intro (by simp [ofK, c2, c3, bI]) (And.intro rfl rfl))
  refine And.intro (hi) ?_
  rw [hc]
  refine And.intro (fun c4 => ?_) (fun c4 => ?_)
  · exact And.intro (by decide) (And.intro (by simp [ofK, c1, c3, c4, bI]) (And.intro rfl rfl))
  · exact absurd (c2.symm.trans c4) (by decide)
theorem c_M_isOf (j : Nat) (hj : j < 40) (a : Int32) : Con g SHc d 214 [.ref 12, .int (nI j), .int a] I D (EqP (some (.int (bI (ofK (I 103 j) a)))) I D) := by
  have hc : (nI j).toNatClampNeg = j := nI_clamp (by omega)
  have hi : inn (nI j) 40 := inn_nI hj (by decide)
  refine Con.mk (LV := v_M_isOf) k_M_isOf (Nat.le_of_ble_eq_true rfl) (fun K hK => ?_)
  refine hK (0, 37, o_M_isOf_0) (List.mem_of_getElem? (i := 0) rfl) _ _ _ _ ?_
  refine And.intro (hi) ?_
  rw [hc]
  refine And.intro (fun c1 => ?_) (fun c1 => ?_)
  · exact And.intro (by decide) (And.intro (by simp [ofK, c1, bI]) (And.intro rfl rfl))
  refine And.intro (fun c2 => ?_) (fun c2 => ?_)
  · refine And.intro (fun c3 => ?_) (fun c3 => ?_)
    · exact And.intro (by decide) (And.intro (by simp [ofK, c1, c2, c3, bI]) (And.intro rfl rfl))
    refine And.intro (fun c4 => ?_) (fun c4 => ?_)
    · exact And.intro (by decide) (And.intro (by simp [ofK, c1, c2, c4, bI]) (And.intro rfl rfl))
    · exact And.intro (by decide) (And.intro (by simp [ofK, c3, c4, bI]) (And.intro rfl rfl))
  refine And.intro (fun c3 => ?_) (fun c3 => ?_)
  · exact And.intro (by decide) (And.intro (by simp [ofK, c2, c3, bI]) (And.intro rfl rfl))
  refine And.intro (fun c4 => ?_) (fun c4 => ?_)
  · exact And.intro (by decide) (And.intro (by simp [ofK, c1, c3, c4, bI]) (And.intro rfl rfl))
  · exact absurd (c2.symm.trans c4) (by decide)
theorem c_X_takes (f n : Nat) (hf : f < 4) (hn : n ≤ 40) (sh : Int32) (hs : shN sh n = true) : Con g SHc (d + 1) 97 [.ref 9, .int (nI f), .int sh] I D (EqP (some (.int (bI (tkB (I 42) (I 56 f) sh)))) I D) := by
  have hc : (nI f).toNatClampNeg = f := nI_clamp (by omega)
  have hi : inn (nI f) 4 := inn_nI hf (by decide)
  refine Con.mk (LV := v_Fleets_takes) k_Fleets_takes (Nat.le_of_ble_eq_true rfl) (fun K hK => ?_)
  refine hK (0, 38, o_Fleets_takes_0) (List.mem_of_getElem? (i := 0) rfl) _ _ _ _ ?_
  refine And.intro (fun c1 => ?_) (fun c1 => ?_)
  · exact And.intro (by decide) (And.intro (by simp [tkB, c1, bI]) (And.intro rfl rfl))
  refine And.intro (hi) ?_
  rw [hc]
  refine And.intro (fun c2 => ?_) (fun c2 => ?_)
  · exact And.intro (by decide) (And.intro (by simp [tkB, c2, bI]) (And.intro rfl rfl))
  obtain ⟨j, hj, rfl⟩ := ix_nI (n := n) (by omega) (by simpa [shN, c1] using hs)
  refine And.intro (hi) ?_
  rw [hc]
  refine call_eq (c_X_isOf g d I D j (by omega) _) ?_
  refine And.intro (fun c3 => ?_) (fun c3 => ?_)
  · exact And.intro (by decide) (And.intro (by simp [tkB, c1, c2, bI_0.mp c3, nI_clamp (show j < 2 ^ 31 by omega), bI]) (And.intro rfl rfl))
  · exact And.intro (by decide) (And.intro (by simp [tkB, bI_n0.mp c3, nI_clamp (show j < 2 ^ 31 by omega), bI]) (And.intro rfl rfl))
theorem c_M_takes (f n : Nat) (hf : f < 4) (hn : n ≤ 40) (sh : Int32) (hs : shN sh n = true) : Con g SHc (d + 1) 219 [.ref 12, .int (nI f), .int sh] I D (EqP (some (.int (bI (tkB (I 103) (I 110 f) sh)))) I D) := by
  have hc : (nI f).toNatClampNeg = f := nI_clamp (by omega)
  have hi : inn (nI f) 4 := inn_nI hf (by decide)
  refine Con.mk (LV := v_M_takes) k_M_takes (Nat.le_of_ble_eq_true rfl) (fun K hK => ?_)
  refine hK (0, 35, o_M_takes_0) (List.mem_of_getElem? (i := 0) rfl) _ _ _ _ ?_
  refine And.intro (fun c1 => ?_) (fun c1 => ?_)
  · exact And.intro (by decide) (And.intro (by simp [tkB, c1, bI]) (And.intro rfl rfl))
  refine And.intro (hi) ?_
  rw [hc]
  refine And.intro (fun c2 => ?_) (fun c2 => ?_)
  · exact And.intro (by decide) (And.intro (by simp [tkB, c2, bI]) (And.intro rfl rfl))
  obtain ⟨j, hj, rfl⟩ := ix_nI (n := n) (by omega) (by simpa [shN, c1] using hs)
  refine And.intro (hi) ?_
  rw [hc]
  refine call_eq (c_M_isOf g d I D j (by omega) _) ?_
  refine And.intro (fun c3 => ?_) (fun c3 => ?_)
  · exact And.intro (by decide) (And.intro (by simp [tkB, c1, c2, bI_0.mp c3, nI_clamp (show j < 2 ^ 31 by omega), bI]) (And.intro rfl rfl))
  · exact And.intro (by decide) (And.intro (by simp [tkB, bI_n0.mp c3, nI_clamp (show j < 2 ^ 31 by omega), bI]) (And.intro rfl rfl))
theorem c_X_ffault (j : Nat) (hj : j < 4) (i : Int32) : Con g SHc d 96 [.ref 9, .int (nI j), .int i] I D (EqP (some (.int (ffA (I 55 j) i (I 57 j)))) I D) := by
  have hc : (nI j).toNatClampNeg = j := nI_clamp (by omega)
  have hi : inn (nI j) 4 := inn_nI hj (by decide)
  refine Con.mk (LV := v_Fleets_faultAt) k_Fleets_faultAt (Nat.le_of_ble_eq_true rfl) (fun K hK => ?_)
  refine hK (0, 31, o_Fleets_faultAt_0) (List.mem_of_getElem? (i := 0) rfl) _ _ _ _ ?_
  refine And.intro (hi) ?_
  rw [hc]
  refine And.intro (fun c1 => ?_) (fun c1 => ?_)
  · refine And.intro (fun c2 => ?_) (fun c2 => ?_)
    · exact And.intro (by simp [ffA, c1, ix, i32_nle.mpr c2]) (And.intro (by first | (simp [ffA, c1, ix, i32_nle.mpr c2]; done) | (simp [ffA, c1, ix, i32_nle.mpr c2]; rfl)) (by first | rfl | simp [ffA, c1, ix, i32_nle.mpr c2]))
    refine And.intro (hi) ?_
    rw [hc]
    refine And.intro (fun c3 => ?_) (fun c3 => ?_)
    · exact And.intro (by simp [ffA, c1, ix, i32_nlt.mp c2, c3]) (And.intro (by first | (simp [ffA, c1, ix, i32_nlt.mp c2, c3]; done) | (simp [ffA, c1, ix, i32_nlt.mp c2, c3]; rfl)) (by first | rfl | simp [ffA, c1, ix, i32_nlt.mp c2, c3]))
    · exact And.intro (by simp [ffA, c1, ix, c3]) (And.intro (by first | (simp [ffA, c1, ix, c3]; done) | (simp [ffA, c1, ix, c3]; rfl)) (by first | rfl | simp [ffA, c1, ix, c3]))
  · exact And.intro (by simp [ffA, c1]) (And.intro (by first | (simp [ffA, c1]; done) | (simp [ffA, c1]; rfl)) (by first | rfl | simp [ffA, c1]))
theorem c_M_stands (j n : Nat) (hj : j < 4) (hn : n ≤ 8) (i : Int32) (hI : I 111 j = -1 ∨ I 111 j = nI n) : Con g SHc (d + 1) 218 [.ref 12, .int (nI j), .int i] I D (EqP (some (.int (ffA (bI (!decide (I 111 j = -1))) i (I 111 j)))) I D) := by
  have hc : (nI j).toNatClampNeg = j := nI_clamp (by omega)
  have hi : inn (nI j) 4 := inn_nI hj (by decide)
  refine Con.mk (LV := v_M_stands) k_M_stands (Nat.le_of_ble_eq_true rfl) (fun K hK => ?_)
  refine hK (0, 36, o_M_stands_0) (List.mem_of_getElem? (i := 0) rfl) _ _ _ _ ?_
  refine And.intro (hi) ?_
  rw [hc]
  refine And.intro (fun c1 => ?_) (fun c1 => ?_)
  · have he := hI.resolve_left c1
    refine And.intro (hi) ?_
    rw [hc]
    refine call_eq (c_M_in g d I D i 0 _) ?_
    rw [he, ix_wi (by omega)]
    have hne := nI_neg1 (show n < 2 ^ 31 by omega)
    refine And.intro (fun c2 => ?_) (fun c2 => ?_)
    · exact And.intro (by simp [ffA, hne, bI_n0.mp c2, bI]) (And.intro (by first | (simp [ffA, hne, bI_n0.mp c2, bI]; done) | (simp [ffA, hne, bI_n0.mp c2, bI]; rfl)) (by first | rfl | simp [ffA, hne, bI_n0.mp c2, bI]))
    · exact And.intro (by simp [ffA, hne, bI_0.mp c2, bI]) (And.intro (by first | (simp [ffA, hne, bI_0.mp c2, bI]; done) | (simp [ffA, hne, bI_0.mp c2, bI]; rfl)) (by first | rfl | simp [ffA, hne, bI_0.mp c2, bI]))
  · exact And.intro (by simp [ffA, c1, bI]) (And.intro (by first | (simp [ffA, c1, bI]; done) | (simp [ffA, c1, bI]; rfl)) (by first | rfl | simp [ffA, c1, bI]))
theorem ffA_0 {sd i : Int32} {n : Nat} (hn : n ≤ 8) (h : ffA sd i (nI n) = 0) : ∃ k, k < n ∧ i = nI k := by
  unfold ffA at h
  split at h
  · exact absurd h (by decide)
  · split at h
    next h1 => exact ix_nI (by omega) h1
    next => exact absurd h (by decide)
theorem ffA_M {i : Int32} {n : Nat} {sz : Int32} (hn : n ≤ 8) (hs : sz = -1 ∨ sz = nI n) (h : ffA (bI (!decide (sz = -1))) i sz = 0) : ∃ k, k < n ∧ i = nI k := by
  rcases hs with rfl | rfl
  · exact absurd (show (1 : Int32) = 0 from h) (by decide)
  · exact ffA_0 hn h
theorem c_X_member (hF : ∀ j, j < 4 → ∃ n, n ≤ 8 ∧ I 57 j = nI n) (f i : Int32) : Con g SHc (d + 1) 98 [.ref 0, .int f, .int i] I D (EqP (some (.int (if wi f 0 3 = true then (if 3000 ≤ I 1 0 then -4 else if ffA (I 55 f.toNatClampNeg) i (I 57 f.toNatClampNeg) = 0 then I 58 (8 * f.toNatClampNeg + i.toNatClampNeg) else -10 - (ffA (I 55 f.toNatClampNeg) i (I 57 f.toNatClampNeg))) else -2))) (if wi f 0 3 = true then (if 3000 ≤ I 1 0 then I else if ffA (I 55 f.toNatClampNeg) i (I 57 f.toNatClampNeg) = 0 then I else tellX (ffA (I 55 f.toNatClampNeg) i (I 57 f.toNatClampNeg)) I) else I) D) := by
  refine Con.mk (LV := v_X_member) k_X_member (Nat.le_of_ble_eq_true rfl) (fun K hK => ?_)
  refine hK (0, 63, o_X_member_0) (List.mem_of_getElem? (i := 0) rfl) _ _ _ _ ?_
  refine call_eq (c_X_isFleet g d I D f) ?_
  refine And.intro (fun c1 => ?_) (fun c1 => ?_)
  · have h1 := bI_n0.mp c1
    obtain ⟨j, hj, rfl⟩ := wi_nI (m := 3) (by decide) h1
    have hc : (nI j).toNatClampNeg = j := nI_clamp (by omega)
    rw [h1, hc]
    obtain ⟨n, hn, he⟩ := hF j (by omega)
    refine call_eq (c_X_areSpent g d I D) ?_
    refine And.intro (fun c2 => ?_) (fun c2 => ?_)
    · have h2 : ¬ 3000 ≤ I 1 0 := of_decide_eq_false (bI_0.mp c2)
      refine call_eq (c_X_ffault g d I D j (by omega) i) ?_
      refine And.intro (fun c3 => ?_) (fun c3 => ?_)
      · obtain ⟨k, hk, rfl⟩ : ∃ k, k < 8 ∧ i = nI k := by
          rw [he] at c3
          obtain ⟨k, hk, h⟩ := ffA_0 hn c3
          exact ⟨k, by omega, h⟩
        have e1 : nI j * 8 + nI k = nI (8 * j + k) := by rw [show (8 : Int32) = nI 8 from rfl, pk_mul, nI_add, Nat.mul_comm]
        refine And.intro (by rw [e1]; exact inn_nI (by omega) (by decide)) ?_
        rw [e1]
        exact And.intro (by simp [h2, c3, nI_clamp (show k < 2 ^ 31 by omega), nI_clamp (show 8 * j + k < 2 ^ 31 by omega)]) (And.intro (by first | (simp [h2, c3, nI_clamp (show k < 2 ^ 31 by omega), nI_clamp (show 8 * j + k < 2 ^ 31 by omega)]; done) | (simp [h2, c3, nI_clamp (show k < 2 ^ 31 by omega), nI_clamp (show 8 * j + k < 2 ^ 31 by omega)]; rfl)) (by first | rfl | simp [h2, c3, nI_clamp (show k < 2 ^ 31 by omega), nI_clamp (show 8 * j + k < 2 ^ 31 by omega)]))
      · refine call_eq (c_X_tell g d I D _) ?_
        exact And.intro (by simp [h2, c3]) (And.intro (by first | (simp [h2, c3]; done) | (simp [h2, c3]; rfl)) (by first | rfl | simp [h2, c3]))
    · exact And.intro (by simp [of_decide_eq_true (bI_n0.mp c2)]) (And.intro (by first | (simp [of_decide_eq_true (bI_n0.mp c2)]; done) | (simp [of_decide_eq_true (bI_n0.mp c2)]; rfl)) (by first | rfl | simp [of_decide_eq_true (bI_n0.mp c2)]))
  · exact And.intro (by simp [bI_0.mp c1]) (And.intro (by first | (simp [bI_0.mp c1]; done) | (simp [bI_0.mp c1]; rfl)) (by first | rfl | simp [bI_0.mp c1]))
theorem c_M_member (hF : ∀ j, j < 4 → ∃ n, n ≤ 8 ∧ (I 111 j = -1 ∨ I 111 j = nI n)) (f i : Int32) : Con g SHc (d + 2) 220 [.ref 12, .int f, .int i] I D (EqP (some (.int (if wi f 0 3 = true then (if 3000 ≤ I 12 2 then -4 else if ffA (bI (!decide (I 111 f.toNatClampNeg = -1))) i (I 111 f.toNatClampNeg) = 0 then I 112 (8 * f.toNatClampNeg + i.toNatClampNeg) else -10 - (ffA (bI (!decide (I 111 f.toNatClampNeg = -1))) i (I 111 f.toNatClampNeg))) else -2))) (if wi f 0 3 = true then (if 3000 ≤ I 12 2 then I else if ffA (bI (!decide (I 111 f.toNatClampNeg = -1))) i (I 111 f.toNatClampNeg) = 0 then I else tellM (ffA (bI (!decide (I 111 f.toNatClampNeg = -1))) i (I 111 f.toNatClampNeg)) I) else I) D) := by
  refine Con.mk (LV := v_M_member) k_M_member (Nat.le_of_ble_eq_true rfl) (fun K hK => ?_)
  refine hK (0, 51, o_M_member_0) (List.mem_of_getElem? (i := 0) rfl) _ _ _ _ ?_
  refine call_eq (c_M_isFleet g d I D f) ?_
  refine And.intro (fun c1 => ?_) (fun c1 => ?_)
  · have h1 := bI_n0.mp c1
    obtain ⟨j, hj, rfl⟩ := wi_nI (m := 3) (by decide) h1
    have hc : (nI j).toNatClampNeg = j := nI_clamp (by omega)
    rw [h1, hc]
    obtain ⟨n, hn, he⟩ := hF j (by omega)
    refine call_eq (c_M_isFull g (d + 1) I D) ?_
    refine And.intro (fun c2 => ?_) (fun c2 => ?_)
    · have h2 : ¬ 3000 ≤ I 12 2 := of_decide_eq_false (bI_0.mp c2)
      refine call_eq (c_M_stands g d I D j n (by omega) hn i he) ?_
      refine And.intro (fun c3 => ?_) (fun c3 => ?_)
      · obtain ⟨k, hk, rfl⟩ : ∃ k, k < 8 ∧ i = nI k := by
          obtain ⟨k, hk, h⟩ := ffA_M hn he c3
          exact ⟨k, by omega, h⟩
        have e1 : 8 * nI j + nI k = nI (8 * j + k) := nI_lin' 8 j k
        refine And.intro (by rw [e1]; exact inn_nI (by omega) (by decide)) ?_
        rw [e1]
        exact And.intro (by simp [h2, c3, nI_clamp (show k < 2 ^ 31 by omega), nI_clamp (show 8 * j + k < 2 ^ 31 by omega)]) (And.intro (by first | (simp [h2, c3, nI_clamp (show k < 2 ^ 31 by omega), nI_clamp (show 8 * j + k < 2 ^ 31 by omega)]; done) | (simp [h2, c3, nI_clamp (show k < 2 ^ 31 by omega), nI_clamp (show 8 * j + k < 2 ^ 31 by omega)]; rfl)) (by first | rfl | simp [h2, c3, nI_clamp (show k < 2 ^ 31 by omega), nI_clamp (show 8 * j + k < 2 ^ 31 by omega)]))
      · refine call_eq (c_M_fails g (d + 1) I D _) ?_
        exact And.intro (by simp [h2, c3]) (And.intro (by first | (simp [h2, c3]; done) | (simp [h2, c3]; rfl)) (by first | rfl | simp [h2, c3]))
    · exact And.intro (by simp [of_decide_eq_true (bI_n0.mp c2)]) (And.intro (by first | (simp [of_decide_eq_true (bI_n0.mp c2)]; done) | (simp [of_decide_eq_true (bI_n0.mp c2)]; rfl)) (by first | rfl | simp [of_decide_eq_true (bI_n0.mp c2)]))
  · exact And.intro (by simp [bI_0.mp c1]) (And.intro (by first | (simp [bI_0.mp c1]; done) | (simp [bI_0.mp c1]; rfl)) (by first | rfl | simp [bI_0.mp c1]))
theorem shN_M {sh : Int32} {n : Nat} (hn : n < 2 ^ 31) : (decide (sh = -1) || wi sh 0 (nI n - 1)) = shN sh n := by
  unfold shN
  rw [ix_wi hn]
theorem c_X_join (hF : ∀ j, j < 4 → ∃ n, n ≤ 8 ∧ I 57 j = nI n) (m : Nat) (hm : m ≤ 40) (hS : I 6 9 = nI m) (f i sh : Int32) : Con g SHc (d + 3) 95 [.ref 0, .int f, .int i, .int sh] I D (EqP (some (.int (if (wi f 0 3 && shN sh m) = true then (if 3000 ≤ I 1 0 then -4 else if ffA (I 55 f.toNatClampNeg) i (I 57 f.toNatClampNeg) = 0 then (if tkB (I 42) (I 56 f.toNatClampNeg) sh = true then 1 else -16) else -10 - (ffA (I 55 f.toNatClampNeg) i (I 57 f.toNatClampNeg))) else -2))) (if (wi f 0 3 && shN sh m) = true then (if 3000 ≤ I 1 0 then I else if ffA (I 55 f.toNatClampNeg) i (I 57 f.toNatClampNeg) = 0 then (if tkB (I 42) (I 56 f.toNatClampNeg) sh = true then up2 I 58 (8 * f.toNatClampNeg + i.toNatClampNeg) sh else tellX 6 I) else tellX (ffA (I 55 f.toNatClampNeg) i (I 57 f.toNatClampNeg)) I) else I) D) := by
  refine Con.mk (LV := v_X_join) k_X_join (Nat.le_of_ble_eq_true rfl) (fun K hK => ?_)
  refine hK (0, 95, o_X_join_0) (List.mem_of_getElem? (i := 0) rfl) _ _ _ _ ?_
  refine call_eq (c_X_isFleet g (d + 2) I D f) ?_
  refine And.intro (fun c1 => ?_) (fun c1 => ?_)
  · exact And.intro (by simp [bI_0.mp c1]) (And.intro (by first | (simp [bI_0.mp c1]; done) | (simp [bI_0.mp c1]; rfl)) (by first | rfl | simp [bI_0.mp c1]))
  refine call_eq (c_X_isShipOrNothing g (d + 2) I D sh) ?_
  rw [hS, shN_or (by omega)]
  have h1 := bI_n0.mp c1
  refine And.intro (fun c0 => ?_) (fun c0 => ?_)
  · have h0 : shN sh m = true := bI_n0.mp c0
    obtain ⟨j, hj, rfl⟩ := wi_nI (m := 3) (by decide) h1
    have hc : (nI j).toNatClampNeg = j := nI_clamp (by omega)
    rw [h1, h0, hc]
    obtain ⟨n, hn, he⟩ := hF j (by omega)
    refine call_eq (c_X_areSpent g (d + 2) I D) ?_
    refine And.intro (fun c2 => ?_) (fun c2 => ?_)
    · have h2 : ¬ 3000 ≤ I 1 0 := of_decide_eq_false (bI_0.mp c2)
      refine call_eq (c_X_ffault g (d + 2) I D j (by omega) i) ?_
      refine And.intro (fun c3 => ?_) (fun c3 => ?_)
      · refine And.intro (fun z => absurd z c3) (fun _ => ?_)
        refine call_eq (c_X_tell g (d + 2) I D _) ?_
        exact And.intro (by simp [h2, c3]) (And.intro (by first | (simp [h2, c3]; done) | (simp [h2, c3]; rfl)) (by first | rfl | simp [h2, c3]))
      · obtain ⟨k, hk, rfl⟩ : ∃ k, k < 8 ∧ i = nI k := by
          rw [he] at c3
          obtain ⟨k, hk, h⟩ := ffA_0 hn c3
          exact ⟨k, by omega, h⟩
        refine call_eq (c_X_takes g (d + 1) I D j m (by omega) hm sh h0) ?_
        refine And.intro (fun c4 => ?_) (fun c4 => ?_)
        · refine And.intro (fun _ => ?_) (fun z => absurd c3 z)
          have e1 : nI j * 8 + nI k = nI (8 * j + k) := by rw [show (8 : Int32) = nI 8 from rfl, pk_mul, nI_add, Nat.mul_comm]
          refine And.intro (by rw [e1]; exact inn_nI (by omega) (by decide)) ?_
          rw [e1]
          exact And.intro (by simp [h2, c3, bI_n0.mp c4, nI_clamp (show k < 2 ^ 31 by omega), nI_clamp (show 8 * j + k < 2 ^ 31 by omega)]) (And.intro (by first | (simp [h2, c3, bI_n0.mp c4, nI_clamp (show k < 2 ^ 31 by omega), nI_clamp (show 8 * j + k < 2 ^ 31 by omega)]; done) | (simp [h2, c3, bI_n0.mp c4, nI_clamp (show k < 2 ^ 31 by omega), nI_clamp (show 8 * j + k < 2 ^ 31 by omega)]; rfl)) (by first | rfl | simp [h2, c3, bI_n0.mp c4, nI_clamp (show k < 2 ^ 31 by omega), nI_clamp (show 8 * j + k < 2 ^ 31 by omega)]))
        · refine And.intro (fun z => absurd z (by decide)) (fun _ => ?_)
          refine call_eq (c_X_tell g (d + 2) I D _) ?_
          exact And.intro (by simp [h2, c3, bI_0.mp c4]) (And.intro (by first | (simp [h2, c3, bI_0.mp c4]; done) | (simp [h2, c3, bI_0.mp c4]; rfl)) (by first | rfl | simp [h2, c3, bI_0.mp c4]))
    · exact And.intro (by simp [of_decide_eq_true (bI_n0.mp c2)]) (And.intro (by first | (simp [of_decide_eq_true (bI_n0.mp c2)]; done) | (simp [of_decide_eq_true (bI_n0.mp c2)]; rfl)) (by first | rfl | simp [of_decide_eq_true (bI_n0.mp c2)]))
  · exact And.intro (by simp [bI_0.mp c0]) (And.intro (by first | (simp [bI_0.mp c0]; done) | (simp [bI_0.mp c0]; rfl)) (by first | rfl | simp [bI_0.mp c0]))
theorem c_M_join (hF : ∀ j, j < 4 → ∃ n, n ≤ 8 ∧ (I 111 j = -1 ∨ I 111 j = nI n)) (m : Nat) (hm : m ≤ 40) (hS : I 12 49 = nI m) (f i sh : Int32) : Con g SHc (d + 3) 217 [.ref 12, .int f, .int i, .int sh] I D (EqP (some (.int (if (wi f 0 3 && shN sh m) = true then (if 3000 ≤ I 12 2 then -4 else if ffA (bI (!decide (I 111 f.toNatClampNeg = -1))) i (I 111 f.toNatClampNeg) = 0 then (if tkB (I 103) (I 110 f.toNatClampNeg) sh = true then 1 else -16) else -10 - (ffA (bI (!decide (I 111 f.toNatClampNeg = -1))) i (I 111 f.toNatClampNeg))) else -2))) (if (wi f 0 3 && shN sh m) = true then (if 3000 ≤ I 12 2 then I else if ffA (bI (!decide (I 111 f.toNatClampNeg = -1))) i (I 111 f.toNatClampNeg) = 0 then (if tkB (I 103) (I 110 f.toNatClampNeg) sh = true then up2 I 112 (8 * f.toNatClampNeg + i.toNatClampNeg) sh else tellM 6 I) else tellM (ffA (bI (!decide (I 111 f.toNatClampNeg = -1))) i (I 111 f.toNatClampNeg)) I) else I) D) := by
  refine Con.mk (LV := v_M_join) k_M_join (Nat.le_of_ble_eq_true rfl) (fun K hK => ?_)
  refine hK (0, 85, o_M_join_0) (List.mem_of_getElem? (i := 0) rfl) _ _ _ _ ?_
  refine call_eq (c_M_isFleet g (d + 1) I D f) ?_
  refine And.intro (fun c1 => ?_) (fun c1 => ?_)
  · exact And.intro (by simp [bI_0.mp c1]) (And.intro (by first | (simp [bI_0.mp c1]; done) | (simp [bI_0.mp c1]; rfl)) (by first | rfl | simp [bI_0.mp c1]))
  refine call_eq (c_M_isPart g d I D sh) ?_
  rw [hS, shN_M (by omega)]
  have h1 := bI_n0.mp c1
  refine And.intro (fun c0 => ?_) (fun c0 => ?_)
  · have h0 : shN sh m = true := bI_n0.mp c0
    obtain ⟨j, hj, rfl⟩ := wi_nI (m := 3) (by decide) h1
    have hc : (nI j).toNatClampNeg = j := nI_clamp (by omega)
    rw [h1, h0, hc]
    obtain ⟨n, hn, he⟩ := hF j (by omega)
    refine call_eq (c_M_isFull g (d + 2) I D) ?_
    refine And.intro (fun c2 => ?_) (fun c2 => ?_)
    · have h2 : ¬ 3000 ≤ I 12 2 := of_decide_eq_false (bI_0.mp c2)
      refine call_eq (c_M_stands g (d + 1) I D j n (by omega) hn i he) ?_
      refine And.intro (fun c3 => ?_) (fun c3 => ?_)
      · refine And.intro (fun z => absurd z c3) (fun _ => ?_)
        refine call_eq (c_M_fails g (d + 2) I D _) ?_
        exact And.intro (by simp [h2, c3]) (And.intro (by first | (simp [h2, c3]; done) | (simp [h2, c3]; rfl)) (by first | rfl | simp [h2, c3]))
      · obtain ⟨k, hk, rfl⟩ : ∃ k, k < 8 ∧ i = nI k := by
          obtain ⟨k, hk, h⟩ := ffA_M hn he c3
          exact ⟨k, by omega, h⟩
        refine call_eq (c_M_takes g (d + 1) I D j m (by omega) hm sh h0) ?_
        refine And.intro (fun c4 => ?_) (fun c4 => ?_)
        · refine And.intro (fun _ => ?_) (fun z => absurd c3 z)
          have e1 : 8 * nI j + nI k = nI (8 * j + k) := nI_lin' 8 j k
          refine And.intro (by rw [e1]; exact inn_nI (by omega) (by decide)) ?_
          rw [e1]
          exact And.intro (by simp [h2, c3, bI_n0.mp c4, nI_clamp (show k < 2 ^ 31 by omega), nI_clamp (show 8 * j + k < 2 ^ 31 by omega)]) (And.intro (by first | (simp [h2, c3, bI_n0.mp c4, nI_clamp (show k < 2 ^ 31 by omega), nI_clamp (show 8 * j + k < 2 ^ 31 by omega)]; done) | (simp [h2, c3, bI_n0.mp c4, nI_clamp (show k < 2 ^ 31 by omega), nI_clamp (show 8 * j + k < 2 ^ 31 by omega)]; rfl)) (by first | rfl | simp [h2, c3, bI_n0.mp c4, nI_clamp (show k < 2 ^ 31 by omega), nI_clamp (show 8 * j + k < 2 ^ 31 by omega)]))
        · refine And.intro (fun z => absurd z (by decide)) (fun _ => ?_)
          refine call_eq (c_M_fails g (d + 2) I D _) ?_
          exact And.intro (by simp [h2, c3, bI_0.mp c4]) (And.intro (by first | (simp [h2, c3, bI_0.mp c4]; done) | (simp [h2, c3, bI_0.mp c4]; rfl)) (by first | rfl | simp [h2, c3, bI_0.mp c4]))
    · exact And.intro (by simp [of_decide_eq_true (bI_n0.mp c2)]) (And.intro (by first | (simp [of_decide_eq_true (bI_n0.mp c2)]; done) | (simp [of_decide_eq_true (bI_n0.mp c2)]; rfl)) (by first | rfl | simp [of_decide_eq_true (bI_n0.mp c2)]))
  · exact And.intro (by simp [bI_0.mp c0]) (And.intro (by first | (simp [bI_0.mp c0]; done) | (simp [bI_0.mp c0]; rfl)) (by first | rfl | simp [bI_0.mp c0]))
theorem c_X_as (m : Nat) (hm : m ≤ 40) (hS : I 6 9 = nI m) (sh kd : Int32) : Con g SHc (d + 3) 91 [.ref 0, .int sh, .int kd] I D (EqP (some (.int (if (shN sh m && wi kd 0 4) = true then (if 3000 ≤ I 1 0 then -4 else if sh = -1 then -11 else if ofK (I 42 sh.toNatClampNeg) kd = true then 1 else -13) else -2))) (if (shN sh m && wi kd 0 4) = true then (if 3000 ≤ I 1 0 then I else if sh = -1 then tellX 1 I else if ofK (I 42 sh.toNatClampNeg) kd = true then up2 I 0 12 (I 45 sh.toNatClampNeg) else tellX 3 I) else I) D) := by
  refine Con.mk (LV := v_X_as) k_X_as (Nat.le_of_ble_eq_true rfl) (fun K hK => ?_)
  refine hK (0, 83, o_X_as_0) (List.mem_of_getElem? (i := 0) rfl) _ _ _ _ ?_
  refine call_eq (c_X_isShipOrNothing g (d + 2) I D sh) ?_
  rw [hS, shN_or (by omega)]
  refine And.intro (fun c1 => ?_) (fun c1 => ?_)
  · exact And.intro (by simp [bI_0.mp c1]) (And.intro (by first | (simp [bI_0.mp c1]; done) | (simp [bI_0.mp c1]; rfl)) (by first | rfl | simp [bI_0.mp c1]))
  refine call_eq (c_X_isWithin g (d + 2) I D kd 0 4) ?_
  have h1 : shN sh m = true := bI_n0.mp c1
  refine And.intro (fun c2 => ?_) (fun c2 => ?_)
  · have h2 := bI_n0.mp c2
    rw [h1, h2]
    refine call_eq (c_X_areSpent g (d + 2) I D) ?_
    refine And.intro (fun c3 => ?_) (fun c3 => ?_)
    · have h3 : ¬ 3000 ≤ I 1 0 := of_decide_eq_false (bI_0.mp c3)
      refine And.intro (fun c4 => ?_) (fun c4 => ?_)
      · obtain ⟨j, hj, rfl⟩ := ix_nI (n := m) (by omega) (by simpa [shN, c4] using h1)
        have hc : (nI j).toNatClampNeg = j := nI_clamp (by omega)
        refine call_eq (c_X_isOf g (d + 2) I D j (by omega) kd) ?_
        refine And.intro (fun c5 => ?_) (fun c5 => ?_)
        · refine And.intro (inn_nI (by omega) (by decide)) ?_
          exact And.intro (by simp [h3, c4, bI_n0.mp c5, hc]) (And.intro (by first | (simp [h3, c4, bI_n0.mp c5, hc]; done) | (simp [h3, c4, bI_n0.mp c5, hc]; rfl)) (by first | rfl | simp [h3, c4, bI_n0.mp c5, hc]))
        · refine call_eq (c_X_tell g (d + 2) I D 3) ?_
          exact And.intro (by simp [h3, c4, bI_0.mp c5, hc]) (And.intro (by first | (simp [h3, c4, bI_0.mp c5, hc]; done) | (simp [h3, c4, bI_0.mp c5, hc]; rfl)) (by first | rfl | simp [h3, c4, bI_0.mp c5, hc]))
      · refine call_eq (c_X_tell g (d + 2) I D 1) ?_
        exact And.intro (by simp [h3, c4]) (And.intro (by first | (simp [h3, c4]; done) | (simp [h3, c4]; rfl)) (by first | rfl | simp [h3, c4]))
    · exact And.intro (by simp [of_decide_eq_true (bI_n0.mp c3)]) (And.intro (by first | (simp [of_decide_eq_true (bI_n0.mp c3)]; done) | (simp [of_decide_eq_true (bI_n0.mp c3)]; rfl)) (by first | rfl | simp [of_decide_eq_true (bI_n0.mp c3)]))
  · exact And.intro (by simp [bI_0.mp c2]) (And.intro (by first | (simp [bI_0.mp c2]; done) | (simp [bI_0.mp c2]; rfl)) (by first | rfl | simp [bI_0.mp c2]))
theorem c_M_as (m : Nat) (hm : m ≤ 40) (hS : I 12 49 = nI m) (sh kd : Int32) : Con g SHc (d + 3) 213 [.ref 12, .int sh, .int kd] I D (EqP (some (.int (if (shN sh m && wi kd 0 4) = true then (if 3000 ≤ I 12 2 then -4 else if sh = -1 then -11 else if ofK (I 103 sh.toNatClampNeg) kd = true then 1 else -13) else -2))) (if (shN sh m && wi kd 0 4) = true then (if 3000 ≤ I 12 2 then I else if sh = -1 then tellM 1 I else if ofK (I 103 sh.toNatClampNeg) kd = true then up2 I 12 56 (I 106 sh.toNatClampNeg) else tellM 3 I) else I) D) := by
  refine Con.mk (LV := v_M_as) k_M_as (Nat.le_of_ble_eq_true rfl) (fun K hK => ?_)
  refine hK (0, 68, o_M_as_0) (List.mem_of_getElem? (i := 0) rfl) _ _ _ _ ?_
  refine call_eq (c_M_isPart g d I D sh) ?_
  rw [hS, shN_M (by omega)]
  refine And.intro (fun c1 => ?_) (fun c1 => ?_)
  · exact And.intro (by simp [bI_0.mp c1]) (And.intro (by first | (simp [bI_0.mp c1]; done) | (simp [bI_0.mp c1]; rfl)) (by first | rfl | simp [bI_0.mp c1]))
  refine call_eq (c_M_in g (d + 2) I D kd 0 4) ?_
  have h1 : shN sh m = true := bI_n0.mp c1
  refine And.intro (fun c2 => ?_) (fun c2 => ?_)
  · have h2 := bI_n0.mp c2
    rw [h1, h2]
    refine call_eq (c_M_isFull g (d + 2) I D) ?_
    refine And.intro (fun c3 => ?_) (fun c3 => ?_)
    · have h3 : ¬ 3000 ≤ I 12 2 := of_decide_eq_false (bI_0.mp c3)
      refine And.intro (fun c4 => ?_) (fun c4 => ?_)
      · obtain ⟨j, hj, rfl⟩ := ix_nI (n := m) (by omega) (by simpa [shN, c4] using h1)
        have hc : (nI j).toNatClampNeg = j := nI_clamp (by omega)
        refine call_eq (c_M_isOf g (d + 2) I D j (by omega) kd) ?_
        refine And.intro (fun c5 => ?_) (fun c5 => ?_)
        · refine And.intro (inn_nI (by omega) (by decide)) ?_
          exact And.intro (by simp [h3, c4, bI_n0.mp c5, hc]) (And.intro (by first | (simp [h3, c4, bI_n0.mp c5, hc]; done) | (simp [h3, c4, bI_n0.mp c5, hc]; rfl)) (by first | rfl | simp [h3, c4, bI_n0.mp c5, hc]))
        · refine call_eq (c_M_fails g (d + 2) I D 3) ?_
          exact And.intro (by simp [h3, c4, bI_0.mp c5, hc]) (And.intro (by first | (simp [h3, c4, bI_0.mp c5, hc]; done) | (simp [h3, c4, bI_0.mp c5, hc]; rfl)) (by first | rfl | simp [h3, c4, bI_0.mp c5, hc]))
      · refine call_eq (c_M_fails g (d + 2) I D 1) ?_
        exact And.intro (by simp [h3, c4]) (And.intro (by first | (simp [h3, c4]; done) | (simp [h3, c4]; rfl)) (by first | rfl | simp [h3, c4]))
    · exact And.intro (by simp [of_decide_eq_true (bI_n0.mp c3)]) (And.intro (by first | (simp [of_decide_eq_true (bI_n0.mp c3)]; done) | (simp [of_decide_eq_true (bI_n0.mp c3)]; rfl)) (by first | rfl | simp [of_decide_eq_true (bI_n0.mp c3)]))
  · exact And.intro (by simp [bI_0.mp c2]) (And.intro (by first | (simp [bI_0.mp c2]; done) | (simp [bI_0.mp c2]; rfl)) (by first | rfl | simp [bI_0.mp c2]))
end S33
