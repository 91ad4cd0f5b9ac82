/-! the BITS of a REAL, as the component reckons them -/
/-- a real that is n of the least reals -/
def Un (x : UInt64) (n : Nat) : Prop := ∃ c q, FP.Core.val64 x = .fin false c q ∧ c * 2 ^ (q + 1074).toNat = n
theorem qmin64 : FP.Core.b64.qmin = -1074 := by decide +kernel
theorem qmax64 : FP.Core.b64.qmax = 971 := by decide +kernel
theorem v_2 : FP.Core.val64 4611686018427387904 = .fin false (2 ^ 52) (-51) := by decide +kernel
theorem v_h : FP.Core.val64 4602678819172646912 = .fin false (2 ^ 52) (-53) := by decide +kernel
theorem v_1 : FP.Core.val64 4607182418800017408 = .fin false (2 ^ 52) (-52) := by decide +kernel
theorem v_52 : FP.Core.val64 4841369599423283200 = .fin false (2 ^ 52) 0 := by decide +kernel
theorem Un_n {x : UInt64} {n : Nat} (h : Un x n) : vf_n64 x := by
  obtain ⟨c, q, h1, -⟩ := h
  exact n64_of (by rw [h1]; intro h; cases h)
theorem un_move (c : Nat) (q : Int) : FP.Core.inUnits c q FP.Core.b64.qmin = c * 2 ^ (q + 1074).toNat := by
  unfold FP.Core.inUnits
  rw [qmin64]
  rfl
theorem un_zval {x : UInt64} {n : Nat} (h : Un x n) : FP.Core.val64 x ≠ .nan ∧ FP.Core.zval FP.Core.b64 (FP.Core.val64 x) = (n : Int) := by
  obtain ⟨c, q, h1, h2⟩ := h
  rw [h1]
  refine And.intro (by intro h; cases h) ?_
  show FP.Core.signed false (FP.Core.inUnits c q FP.Core.b64.qmin) = _
  rw [un_move, h2]
  rfl
theorem Un_cmp {x y : UInt64} {n m : Nat} (hx : Un x n) (hy : Un y m) : FP.dcmp x y = some (compare (n : Int) (m : Int)) := by
  have h := FP.Core.dcmp_zval (un_zval hx).1 (un_zval hy).1
  rw [(un_zval hx).2, (un_zval hy).2] at h
  exact h
theorem Un_1 : Un 4607182418800017408 (2 ^ 1074) := ⟨_, _, v_1, by rw [← Nat.pow_add]; rfl⟩
theorem Un_2 : Un 4611686018427387904 (2 ^ 1075) := ⟨_, _, v_2, by rw [← Nat.pow_add]; rfl⟩
theorem un_rd {x : UInt64} {s : Bool} {c A : Nat} {q e : Int} (h : FP.Core.val64 x = FP.Core.roundRatio FP.Core.b64 s A 1 e) (hc : c < 2 ^ 53) (h1 : -1074 ≤ q) (h2 : q ≤ 971) (hA : A * 2 ^ (e - q).toNat = c * 2 ^ (q - e).toNat) : ∃ c' q', FP.Core.val64 x = .fin s c' q' ∧ c' * 2 ^ (q' + 1074).toNat = c * 2 ^ (q + 1074).toNat := by
  obtain ⟨c', q', h3, h4⟩ := FP.Core.round_exact FP.Core.good_b64 s (c := c) (q := q) hc (by rw [qmin64]; exact h1) (by rw [qmax64]; exact h2)
  rw [un_move, un_move] at h4
  refine ⟨c', q', ?_, h4⟩
  rw [h, ← h3]
  exact FP.Core.roundRatio_congr (by decide) (by decide) (by rw [Nat.mul_one, Nat.mul_one]; exact hA)
theorem Un_dbl {x : UInt64} {n : Nat} (h : Un x n) (hn : n < 2 ^ 1074) : Un (FP.dmul x 4611686018427387904) (2 * n) := by
  obtain ⟨c, q, h1, h2⟩ := h
  obtain ⟨f1, f2, f3, f4⟩ := fit64 h1
  have hq : q ≤ 970 := by
    rcases f4 with f4 | f4
    · omega
    · have h3 : 2 ^ 52 * 2 ^ (q + 1074).toNat < 2 ^ 1074 := Nat.lt_of_le_of_lt (Nat.mul_le_mul_right _ f4) (by rw [h2]; exact hn)
      rw [← Nat.pow_add] at h3
      have := (Nat.pow_lt_pow_iff_right (by decide : 1 < 2)).mp h3
      omega
  have hv := FP.Core.val64_dmul x 4611686018427387904
  rw [h1, v_2] at hv
  simp only [FP.Core.exactProduct, FP.Core.round] at hv
  obtain ⟨c', q', h3, h4⟩ := un_rd hv (c := c) (q := q + 1) f1 (by omega) (by omega) (by
    rw [show (q + -51 - (q + 1)).toNat = 0 by omega, show (q + 1 - (q + -51)).toNat = 52 by omega, Nat.pow_zero, Nat.mul_one])
  refine ⟨c', q', h3, ?_⟩
  rw [h4, ← h2, show (q + 1 + 1074).toNat = (q + 1074).toNat + 1 by omega, Nat.pow_succ]
  ac_rfl
theorem Un_half {x : UInt64} {n : Nat} (h : Un x n) (hn : 2 ^ 1075 ≤ n) : ∃ k, n = 2 * k ∧ Un (FP.dmul x 4602678819172646912) k := by
  obtain ⟨c, q, h1, h2⟩ := h
  obtain ⟨f1, f2, f3, f4⟩ := fit64 h1
  have hq : -52 < q := by
    have h3 : 2 ^ 1075 < 2 ^ 53 * 2 ^ (q + 1074).toNat := Nat.lt_of_le_of_lt (h2 ▸ hn) (Nat.mul_lt_mul_of_pos_right f1 (Nat.two_pow_pos _))
    rw [← Nat.pow_add] at h3
    have := (Nat.pow_lt_pow_iff_right (by decide : 1 < 2)).mp h3
    omega
  have hv := FP.Core.val64_dmul x 4602678819172646912
  rw [h1, v_h] at hv
  simp only [FP.Core.exactProduct, FP.Core.round] at hv
  obtain ⟨c', q', h3, h4⟩ := un_rd hv (c := c) (q := q - 1) f1 (by omega) (by omega) (by
    rw [show (q + -53 - (q - 1)).toNat = 0 by omega, show (q - 1 - (q + -53)).toNat = 52 by omega, Nat.pow_zero, Nat.mul_one])
  refine ⟨_, ?_, c', q', h3, h4⟩
  rw [← h2, show (q + 1074).toNat = (q - 1 + 1074).toNat + 1 by omega, Nat.pow_succ]
  ac_rfl
theorem Un_big {x : UInt64} {n : Nat} (h : Un x n) (hn : 2 ^ 1074 ≤ n) (hn2 : n < 2 ^ 1075) : ∃ D, n = D * 2 ^ 1022 ∧ D < 2 ^ 53 := by
  obtain ⟨c, q, h1, h2⟩ := h
  obtain ⟨f1, f2, f3, f4⟩ := fit64 h1
  have hq : -52 ≤ q := by
    have h3 : 2 ^ 1074 < 2 ^ 53 * 2 ^ (q + 1074).toNat := Nat.lt_of_le_of_lt (h2 ▸ hn) (Nat.mul_lt_mul_of_pos_right f1 (Nat.two_pow_pos _))
    rw [← Nat.pow_add] at h3
    have := (Nat.pow_lt_pow_iff_right (by decide : 1 < 2)).mp h3
    omega
  refine ⟨c * 2 ^ (q + 52).toNat, ?_, ?_⟩
  · rw [← h2, Nat.mul_assoc, ← Nat.pow_add]
    congr 2
    omega
  · have h3 : c * 2 ^ (q + 52).toNat * 2 ^ 1022 < 2 ^ 53 * 2 ^ 1022 := by
      rw [Nat.mul_assoc, ← Nat.pow_add, show (q + 52).toNat + 1022 = (q + 1074).toNat by omega, h2, ← Nat.pow_add]
      exact hn2
    exact Nat.lt_of_mul_lt_mul_right h3
/-- the digits -/
theorem Un_dig {x : UInt64} {D : Nat} (h : Un x (D * 2 ^ 1022)) (hD : D < 2 ^ 53) : FP.Core.DInt ((D : Int) - 2 ^ 52) (FP.dmul (FP.dsub x 4607182418800017408) 4841369599423283200) := by
  obtain ⟨c, q, h1, h2⟩ := h
  obtain ⟨f1, f2, f3, f4⟩ := fit64 h1
  have hv := FP.Core.val64_dsub x 4607182418800017408
  rw [h1, v_1] at hv
  simp only [FP.Core.exactSum, FP.Core.negate, FP.Core.round] at hv
  have key : FP.Core.sumUnits false c q (!false) (2 ^ 52) (-52) (min q (-52)) * ((2 ^ (min q (-52) + 1074).toNat : Nat) : Int) = ((D : Int) - 2 ^ 52) * ((2 ^ 1022 : Nat) : Int) := by
    have a1 : c * 2 ^ (q - min q (-52)).toNat * 2 ^ (min q (-52) + 1074).toNat = D * 2 ^ 1022 := by
      rw [← h2, Nat.mul_assoc, ← Nat.pow_add]
      congr 2
      omega
    have a2 : 2 ^ 52 * 2 ^ ((-52) - min q (-52)).toNat * 2 ^ (min q (-52) + 1074).toNat = 2 ^ 52 * 2 ^ 1022 := by
      rw [Nat.mul_assoc, ← Nat.pow_add]
      congr 2
      omega
    unfold FP.Core.sumUnits FP.Core.signed FP.Core.inUnits
    simp only [Bool.false_eq_true, if_false, Bool.not_false, if_true]
    rw [Int.add_mul, Int.sub_mul, Int.neg_mul, ← Int.natCast_mul, ← Int.natCast_mul, ← Int.natCast_mul, a1, a2, Int.natCast_mul, Int.natCast_mul]
    rfl
  have hm : min q (-52) ≤ -52 ∧ -1074 ≤ min q (-52) := by omega
  generalize min q (-52) = e at hv key hm
  have hS := FP.Core.signed_sumSign false (!false) (FP.Core.sumUnits false c q (!false) (2 ^ 52) (-52) e)
  generalize FP.Core.sumUnits false c q (!false) (2 ^ 52) (-52) e = z at hv key hS
  have kz : z.natAbs * 2 ^ (e + 1074).toNat = ((D : Int) - 2 ^ 52).natAbs * 2 ^ 1022 := by
    have := congrArg Int.natAbs key
    rw [Int.natAbs_mul, Int.natAbs_mul] at this
    exact this
  obtain ⟨c', q', h3, h4⟩ := un_rd hv (c := ((D : Int) - 2 ^ 52).natAbs) (q := -52) (by omega) (by omega) (by omega) (by
    have p : 0 < 2 ^ (e + 1074).toNat := Nat.two_pow_pos _
    refine Nat.eq_of_mul_eq_mul_right p ?_
    rw [show (e - -52).toNat = 0 by omega, Nat.pow_zero, Nat.mul_one, kz, Nat.mul_assoc, ← Nat.pow_add]
    congr 2
    omega)
  have hS2 : FP.Core.signed (FP.Core.sumSign false (!false) z) (c' * 2 ^ (q' + 1074).toNat) = ((D : Int) - 2 ^ 52) * ((2 ^ 1022 : Nat) : Int) := by
    rw [h4]
    rw [← key]
    show FP.Core.signed _ (_ * 2 ^ 1022) = _
    rw [← kz]
    generalize FP.Core.sumSign false (!false) z = b at hS
    unfold FP.Core.signed at hS ⊢
    rw [← hS]
    split
    · rw [Int.natCast_mul, Int.neg_mul]
      congr 2
      simp
    · rw [Int.natCast_mul]
      congr 2
  unfold FP.Core.DInt
  show FP.Core.Whole _ (FP.Core.val64 (FP.Core.dmul (FP.Core.dsub x 4607182418800017408) 4841369599423283200))
  rw [FP.Core.val64_dmul]
  refine FP.Core.whole_round FP.Core.good_b64 FP.Core.wide_b64 (by show _ ≤ 2 ^ 53; omega) ?_
  rw [show FP.Core.val64 (FP.Core.dsub x 4607182418800017408) = _ from h3, v_52]
  obtain ⟨g1, g2, g3, g4⟩ := fit64 h3
  generalize FP.Core.sumSign false (!false) z = b at hS2
  simp only [FP.Core.exactProduct]
  show FP.Core.signed (b != false) (c' * 2 ^ 52 * 2 ^ (q' + 0).toNat) = ((D : Int) - 2 ^ 52) * ((2 ^ (-(q' + 0)).toNat : Nat) : Int)
  have p : (0 : Int) < ((2 ^ (if q' + 0 < 0 then (q' + 1074).toNat else 1074) : Nat) : Int) := Int.natCast_pos.mpr (Nat.two_pow_pos _)
  refine Int.eq_of_mul_eq_mul_right (Int.ne_of_gt p) ?_
  have e2 : ((D : Int) - 2 ^ 52) * ((2 ^ (-(q' + 0)).toNat : Nat) : Int) * ((2 ^ (if q' + 0 < 0 then (q' + 1074).toNat else 1074) : Nat) : Int) = ((D : Int) - 2 ^ 52) * ((2 ^ 1022 : Nat) : Int) * ((2 ^ 52 : Nat) : Int) := by
    rw [Int.mul_assoc, Int.mul_assoc, ← Int.natCast_mul, ← Int.natCast_mul, ← Nat.pow_add, ← Nat.pow_add]
    congr 3
    split <;> omega
  rw [e2, ← hS2]
  have e3 : c' * 2 ^ 52 * 2 ^ (q' + 0).toNat * 2 ^ (if q' + 0 < 0 then (q' + 1074).toNat else 1074) = c' * 2 ^ (q' + 1074).toNat * 2 ^ 52 := by
    rw [Nat.mul_assoc, Nat.mul_assoc, Nat.mul_assoc, ← Nat.pow_add, ← Nat.pow_add, ← Nat.pow_add]
    congr 2
    split <;> omega
  unfold FP.Core.signed
  cases b with
  | false =>
    simp only [bne_self_eq_false, Bool.false_eq_true, if_false]
    rw [← Int.natCast_mul, ← Int.natCast_mul, e3]
  | true =>
    simp only [show (true != false) = true from rfl, if_true]
    rw [Int.neg_mul, Int.neg_mul, ← Int.natCast_mul, ← Int.natCast_mul, e3]
/-- what the bits say -/
theorem un_bits {x : UInt64} {s : Bool} {c : Nat} {q : Int} (h : FP.Core.val64 x = .fin s c q) : c * 2 ^ (q + 1074).toNat = (if x.toNat % 2 ^ 63 < 2 ^ 52 then x.toNat % 2 ^ 63 else (2 ^ 52 + (x.toNat % 2 ^ 63) % 2 ^ 52) * 2 ^ ((x.toNat % 2 ^ 63) / 2 ^ 52 - 1)) ∧ (s = decide (2 ^ 63 ≤ x.toNat)) ∧ x.toNat % 2 ^ 63 < 2047 * 2 ^ 52 := by
  have hn : FP.Core.val64 x ≠ .nan := by rw [h]; intro h; cases h
  have h1 := FP.Core.zmag_bits hn
  rw [h] at h1
  have h2 : FP.Core.zmag FP.Core.b64 (.fin s c q) = c * 2 ^ (q + 1074).toNat := un_move c q
  rw [h2] at h1
  have h3 := FP.Core.sgn_bits hn
  rw [h] at h3
  refine ⟨h1, h3, ?_⟩
  exact (FP.Core.fin_bits x).mp ⟨s, c, q, h⟩
/-- the end of the reckoning -/
theorem un_end {w n0 n D i j : Nat} (hw : w < 2047 * 2 ^ 52) (h0 : n0 = (if w < 2 ^ 52 then w else (2 ^ 52 + w % 2 ^ 52) * 2 ^ (w / 2 ^ 52 - 1))) (hij : n * 2 ^ i = n0 * 2 ^ j) (hj : j ≤ 1022) (hn : n = D * 2 ^ 1022) (hD : D < 2 ^ 53) (hlo : 2 ^ 1074 ≤ n ∨ (i = 0 ∧ j = 1022)) : ((1023 : Int) + i - j) * 2 ^ 52 + (D - 2 ^ 52) = w := by
  by_cases hw1 : w < 2 ^ 52
  · rw [if_pos hw1] at h0
    rcases hlo with hlo | ⟨h1, h2⟩
    · exfalso
      have a1 : n * 2 ^ i < 2 ^ 52 * 2 ^ 1022 := by
        rw [hij, h0]
        refine Nat.lt_of_lt_of_le (Nat.mul_lt_mul_of_pos_right hw1 (Nat.two_pow_pos _)) ?_
        exact Nat.mul_le_mul_left _ (Nat.pow_le_pow_right (by decide) hj)
      have a2 : 2 ^ 1074 * 1 ≤ n * 2 ^ i := Nat.mul_le_mul hlo (Nat.two_pow_pos _)
      rw [← Nat.pow_add] at a1
      omega
    · subst h1
      subst h2
      rw [Nat.pow_zero, Nat.mul_one, h0, hn] at hij
      have := Nat.eq_of_mul_eq_mul_right (Nat.two_pow_pos 1022) hij
      omega
  · rw [if_neg hw1] at h0
    have hm := Nat.mod_lt w (show 0 < 2 ^ 52 by decide)
    have hd := Nat.div_add_mod w (2 ^ 52)
    have he : 1 ≤ w / 2 ^ 52 := by omega
    generalize w % 2 ^ 52 = m at *
    generalize w / 2 ^ 52 = e at *
    have e1 : D * 2 ^ (1022 + i) = (2 ^ 52 + m) * 2 ^ (e - 1 + j) := by
      rw [Nat.pow_add, Nat.pow_add, ← Nat.mul_assoc, ← Nat.mul_assoc, ← hn, ← h0]
      exact hij
    have hlo2 : 2 ^ 52 ≤ D := by
      rcases hlo with hlo | ⟨h1, h2⟩
      · rw [hn] at hlo
        rw [show (2 : Nat) ^ 1074 = 2 ^ 52 * 2 ^ 1022 from (congrArg (fun z : Nat => 2 ^ z) (show 1074 = 52 + 1022 from rfl)).trans (Nat.pow_add 2 52 1022)] at hlo
        exact Nat.le_of_mul_le_mul_right hlo (Nat.two_pow_pos _)
      · subst h1
        subst h2
        rw [Nat.add_zero, Nat.pow_add, ← Nat.mul_assoc] at e1
        have := Nat.eq_of_mul_eq_mul_right (Nat.two_pow_pos 1022) e1
        have p := Nat.two_pow_pos (e - 1)
        have : (2 ^ 52 + m) * 1 ≤ (2 ^ 52 + m) * 2 ^ (e - 1) := Nat.mul_le_mul_left _ p
        omega
    have e3 : 1022 + i = e - 1 + j := by
      have a1 : 2 ^ (52 + (1022 + i)) < 2 ^ (53 + (e - 1 + j)) := by
        rw [Nat.pow_add, Nat.pow_add 2 53]
        refine Nat.lt_of_le_of_lt (Nat.mul_le_mul_right _ hlo2) ?_
        rw [e1]
        exact Nat.mul_lt_mul_of_pos_right (by omega) (Nat.two_pow_pos _)
      have a2 : 2 ^ (52 + (e - 1 + j)) < 2 ^ (53 + (1022 + i)) := by
        rw [Nat.pow_add, Nat.pow_add 2 53]
        refine Nat.lt_of_le_of_lt (Nat.mul_le_mul_right _ (Nat.le_add_right (2 ^ 52) m)) ?_
        rw [← e1]
        exact Nat.mul_lt_mul_of_pos_right hD (Nat.two_pow_pos _)
      have a1 := (Nat.pow_lt_pow_iff_right (by decide : 1 < 2)).mp a1
      have a2 := (Nat.pow_lt_pow_iff_right (by decide : 1 < 2)).mp a2
      omega
    rw [e3] at e1
    have e4 := Nat.eq_of_mul_eq_mul_right (Nat.two_pow_pos _) e1
    omega
theorem Un_sub {x : UInt64} {D : Nat} (h : Un x (D * 2 ^ 1022)) (hD : D < 2 ^ 53) : vf_n64 (FP.dsub x 4607182418800017408) := by
  refine fb_n (E := 3) (fb_sub (E := 2) (by omega) ?_ (fb_c (by decide +kernel)))
  obtain ⟨c, q, h1, h2⟩ := h
  refine ⟨false, c, q, h1, ?_⟩
  rw [h2]
  refine Nat.le_trans (Nat.mul_le_mul_right _ (Nat.le_of_lt hD)) ?_
  rw [← Nat.pow_add]
  exact Nat.pow_le_pow_right (by decide) (by decide)
