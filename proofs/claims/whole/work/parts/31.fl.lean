/-! FLOATS by their BITS -/
theorem u32_of (b : Int32) : (b.toUInt32.toNat : Int) = if 0 ≤ b.toInt then b.toInt else b.toInt + 2 ^ 32 := by
  have h1 := Int32.le_toInt b
  have h2 := Int32.toInt_lt b
  have e : b.toInt = (b.toUInt32.toNat : Int).bmod (2 ^ 32) := by
    show b.toBitVec.toInt = (b.toBitVec.toNat : Int).bmod (2 ^ 32)
    exact BitVec.toInt_eq_toNat_bmod _
  have h3 : b.toUInt32.toNat < 2 ^ 32 := b.toUInt32.toNat_lt
  rw [e]
  rw [Int.bmod_def]
  split <;> split <;> omega
theorem and_abs (b : Int32) : (b &&& 2147483647).toInt = ((b.toUInt32.toNat % 2 ^ 31 : Nat) : Int) := by
  have h := pk_and b (m := 2147483647) 31 (by decide)
  rw [h, nI_toInt (Nat.mod_lt _ (by decide))]
  rfl
theorem noF_val {b : Int32} : noF b = false ↔ FP.Core.val32 b.toUInt32 ≠ .nan := by
  rw [FP.Core.ne_nan32]
  unfold noF
  rw [decide_eq_false_iff_not, i32_lt, and_abs]
  have : ((2139095040 : Int32)).toInt = 2139095040 := by decide
  omega
/-- a whole number that stands among others as the FLOAT does -/
def ordI (b : Int32) : Int32 := if 0 ≤ b then b else -(b &&& 2147483647)
theorem ord_key (b : Int32) : (ordI b).toInt = FP.Core.fkey b.toUInt32 := by
  have h1 := u32_of b
  have h2 := and_abs b
  have h3 : b.toUInt32.toNat < 2 ^ 32 := b.toUInt32.toNat_lt
  have h4 := Int32.le_toInt b
  have h5 := Int32.toInt_lt b
  have e0 : ((0 : Int32)).toInt = 0 := by decide
  unfold ordI FP.Core.fkey
  by_cases h : 0 ≤ b
  · rw [if_pos h]
    rw [i32_le, e0] at h
    rw [if_pos h] at h1
    rw [if_neg (by omega)]
    exact h1.symm
  · rw [if_neg h]
    rw [i32_le, e0] at h
    rw [if_neg h] at h1
    rw [if_pos (by omega), Int32.toInt_neg, h2]
    rw [Int.bmod_eq_of_le (by omega) (by omega)]
    omega
theorem fcmp_ord {a b : Int32} (ha : noF a = false) (hb : noF b = false) : FP.fcmp a.toUInt32 b.toUInt32 = some (compare (ordI a).toInt (ordI b).toInt) := by
  have h := FP.Core.fcmp_key (noF_val.mp ha) (noF_val.mp hb)
  rw [ord_key, ord_key]
  exact h
theorem fcmp_no {a b : UInt32} (h : FP.Core.val32 a = .nan ∨ FP.Core.val32 b = .nan) : FP.fcmp a b = none := by
  show FP.Core.order (FP.Core.val32 a) (FP.Core.val32 b) = none
  rcases h with h | h
  · rw [h]
    cases FP.Core.val32 b <;> rfl
  · rw [h]
    cases FP.Core.val32 a <;> rfl
theorem noF_nan {b : Int32} (h : noF b = true) : FP.Core.val32 b.toUInt32 = .nan := by
  rcases Classical.em (FP.Core.val32 b.toUInt32 = .nan) with h1 | h1
  · exact h1
  · rw [noF_val.mpr h1] at h
    cases h
/-- the six questions of compare() together -/
def cmpR (a b : Int32) : Int32 := if (noF a || noF b) = true then 32 else if ordI a < ordI b then 35 else if ordI b < ordI a then 44 else 26
theorem sn_of {a : Int32} (h : noF a = true → a = 2143289344) : vn_sni2f a = false := by
  cases h1 : noF a with
  | true =>
    rw [h h1]
    decide
  | false =>
    unfold vn_sni2f
    have h2 := (FP.Core.ne_nan32 a.toUInt32).mp (noF_val.mp h1)
    have h3 : ¬ (a.toUInt32 &&& 0x7fffffff > 0x7f800000) := by
      rw [gt_iff_lt, UInt32.lt_iff_toNat_lt, UInt32.toNat_and]
      have e1 : (0x7fffffff : UInt32).toNat = 2 ^ 31 - 1 := by decide
      rw [e1, Nat.and_two_pow_sub_one_eq_mod]
      have e2 : (0x7f800000 : UInt32).toNat = 2139095040 := by decide
      omega
    simp [h3]
section S31
variable (g : Gp) (d : Nat) (I : MI) (D : MD)
theorem c_X_orderOf (a : Int32) : Con g SHc d 34 [.int a] I D (EqP (some (.int (ordI a))) I D) := by
  refine Con.mk (LV := v_X_orderOf) k_X_orderOf (Nat.le_of_ble_eq_true rfl) (fun K hK => ?_)
  refine hK (0, 15, o_X_orderOf_0) (List.mem_of_getElem? (i := 0) rfl) _ _ _ _ ?_
  refine And.intro (fun c => ?_) (fun c => ?_)
  · exact And.intro (by simp [ordI, i32_nle.mpr c]) (And.intro (by first | (simp [ordI, i32_nle.mpr c]; done) | (simp [ordI, i32_nle.mpr c]; rfl)) (by first | rfl | simp [ordI, i32_nle.mpr c]))
  · exact And.intro (by simp [ordI, i32_nlt.mp c]) (And.intro (by first | (simp [ordI, i32_nlt.mp c]; done) | (simp [ordI, i32_nlt.mp c]; rfl)) (by first | rfl | simp [ordI, i32_nlt.mp c]))
theorem c_X_relationsOf (a b : Int32) : Con g SHc (d + 1) 33 [.int a, .int b] I D (EqP (some (.int (cmpR a b))) I D) := by
  refine Con.mk (LV := v_X_relationsOf) k_X_relationsOf (Nat.le_of_ble_eq_true rfl) (fun K hK => ?_)
  refine hK (0, 48, o_X_relationsOf_0) (List.mem_of_getElem? (i := 0) rfl) _ _ _ _ ?_
  refine call_eq (c_X_isNoFloat g d I D a) ?_
  refine And.intro (fun c1 => ?_) (fun c1 => ?_)
  · exact And.intro (by simp [cmpR, bI_n0.mp c1]) (And.intro (by first | (simp [cmpR, bI_n0.mp c1]; done) | (simp [cmpR, bI_n0.mp c1]; rfl)) (by first | rfl | simp [cmpR, bI_n0.mp c1]))
  refine call_eq (c_X_isNoFloat g d I D b) ?_
  refine And.intro (fun c2 => ?_) (fun c2 => ?_)
  · refine call_eq (c_X_orderOf g d I D a) ?_
    refine call_eq (c_X_orderOf g d I D b) ?_
    refine And.intro (fun c3 => ?_) (fun c3 => ?_)
    · refine And.intro (fun c4 => ?_) (fun c4 => ?_)
      · exact And.intro (by simp [cmpR, bI_0.mp c1, bI_0.mp c2, i32_nlt.mpr c3, i32_nlt.mpr c4]) (And.intro (by first | (simp [cmpR, bI_0.mp c1, bI_0.mp c2, i32_nlt.mpr c3, i32_nlt.mpr c4]; done) | (simp [cmpR, bI_0.mp c1, bI_0.mp c2, i32_nlt.mpr c3, i32_nlt.mpr c4]; rfl)) (by first | rfl | simp [cmpR, bI_0.mp c1, bI_0.mp c2, i32_nlt.mpr c3, i32_nlt.mpr c4]))
      · exact And.intro (by simp [cmpR, bI_0.mp c1, bI_0.mp c2, i32_nlt.mpr c3, i32_nle.mp c4]) (And.intro (by first | (simp [cmpR, bI_0.mp c1, bI_0.mp c2, i32_nlt.mpr c3, i32_nle.mp c4]; done) | (simp [cmpR, bI_0.mp c1, bI_0.mp c2, i32_nlt.mpr c3, i32_nle.mp c4]; rfl)) (by first | rfl | simp [cmpR, bI_0.mp c1, bI_0.mp c2, i32_nlt.mpr c3, i32_nle.mp c4]))
    · exact And.intro (by simp [cmpR, bI_0.mp c1, bI_0.mp c2, i32_nle.mp c3]) (And.intro (by first | (simp [cmpR, bI_0.mp c1, bI_0.mp c2, i32_nle.mp c3]; done) | (simp [cmpR, bI_0.mp c1, bI_0.mp c2, i32_nle.mp c3]; rfl)) (by first | rfl | simp [cmpR, bI_0.mp c1, bI_0.mp c2, i32_nle.mp c3]))
  · exact And.intro (by simp [cmpR, bI_n0.mp c2]) (And.intro (by first | (simp [cmpR, bI_n0.mp c2]; done) | (simp [cmpR, bI_n0.mp c2]; rfl)) (by first | rfl | simp [cmpR, bI_n0.mp c2]))
/-- what the machine's compares of two FLOATS give, for the four ways they can stand -/
theorem cmp4 (a b : Int32) : (cmpR a b = 35 ∧ Op.cmpValue (FP.fcmp a.toUInt32 b.toUInt32) .g = -1 ∧ Op.cmpValue (FP.fcmp a.toUInt32 b.toUInt32) .l = -1) ∨ (cmpR a b = 44 ∧ Op.cmpValue (FP.fcmp a.toUInt32 b.toUInt32) .g = 1 ∧ Op.cmpValue (FP.fcmp a.toUInt32 b.toUInt32) .l = 1) ∨ (cmpR a b = 26 ∧ Op.cmpValue (FP.fcmp a.toUInt32 b.toUInt32) .g = 0 ∧ Op.cmpValue (FP.fcmp a.toUInt32 b.toUInt32) .l = 0) ∨ (cmpR a b = 32 ∧ Op.cmpValue (FP.fcmp a.toUInt32 b.toUInt32) .g = 1 ∧ Op.cmpValue (FP.fcmp a.toUInt32 b.toUInt32) .l = -1) := by
  unfold cmpR
  cases ha : noF a with
  | true =>
    rw [fcmp_no (Or.inl (noF_nan ha))]
    exact Or.inr (Or.inr (Or.inr ⟨rfl, rfl, rfl⟩))
  | false =>
    cases hb : noF b with
    | true =>
      rw [fcmp_no (Or.inr (noF_nan hb))]
      exact Or.inr (Or.inr (Or.inr ⟨rfl, rfl, rfl⟩))
    | false =>
      rw [fcmp_ord ha hb]
      rw [if_neg (by decide)]
      by_cases h1 : ordI a < ordI b
      · rw [if_pos h1]
        rw [i32_lt] at h1
        rw [Int.compare_eq_lt.mpr h1]
        exact Or.inl ⟨rfl, rfl, rfl⟩
      · rw [if_neg h1]
        by_cases h2 : ordI b < ordI a
        · rw [if_pos h2]
          rw [i32_lt] at h2
          rw [Int.compare_eq_gt.mpr h2]
          exact Or.inr (Or.inl ⟨rfl, rfl, rfl⟩)
        · rw [if_neg h2]
          rw [i32_lt] at h1 h2
          rw [show compare (ordI a).toInt (ordI b).toInt = .eq from Int.compare_eq_eq.mpr (by omega)]
          exact Or.inr (Or.inr (Or.inl ⟨rfl, rfl, rfl⟩))
end S31
