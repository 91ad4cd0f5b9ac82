/-! no real of the desk is the negative zero -/
def nz (x : UInt64) : Prop := x ≠ 9223372036854775808
theorem v_m0 : FP.Core.val64 9223372036854775808 = .fin true 0 (-1074) := by decide +kernel
theorem fb_fin {E : Nat} {x : UInt64} (h : fb E x) : FP.Core.DFin x := by
  obtain ⟨s, c, q, h1, -⟩ := h
  exact ⟨s, c, q, h1⟩
/-- what is not less than the least real is not rounded to zero -/
theorem rr_nz {r : UInt64} {s : Bool} {A B : Nat} {e : Int} (h : FP.Core.val64 r = FP.Core.roundRatio FP.Core.b64 s A B e) (hB : 0 < B) (he : -3000 ≤ e) (hA : B * 2 ^ 1926 ≤ A * 2 ^ (e + 3000).toNat) : r.toNat % 2 ^ 63 ≠ 0 := by
  have h1 := FP.Core.mag_ge (f := FP.Core.b64) FP.Core.good_b64 (n := r.toNat) (m := 1) (e0 := -3000) h hB (by rw [qmin64]; omega) he (by decide +kernel) (by
    unfold FP.Core.inUnits
    rw [qmin64, show FP.Core.unitsOf FP.Core.b64 1 = 1 by decide +kernel, Nat.one_mul, Nat.mul_comm]
    exact hA)
  have h2 : FP.Core.mag FP.Core.b64 r.toNat = r.toNat % 2 ^ 63 := rfl
  omega
theorem m0_bits : (9223372036854775808 : UInt64).toNat = 2 ^ 63 := rfl
theorem nz_of {x : UInt64} (h : x.toNat % 2 ^ 63 ≠ 0) : nz x := by
  intro h1
  rw [h1, m0_bits] at h
  exact h (by decide)
theorem nz_add {x y : UInt64} (hx : FP.Core.DFin x) (hy : FP.Core.DFin y) (h : nz x) : nz (FP.dadd x y) := by
  obtain ⟨s, c, q, h1⟩ := hx
  obtain ⟨t, b, r, h2⟩ := hy
  have f1 := fit64 h1
  have f2 := fit64 h2
  have hv := FP.Core.val64_dadd x y
  rw [h1, h2] at hv
  simp only [FP.Core.exactSum, FP.Core.round] at hv
  have hm : min q r ≤ q ∧ min q r ≤ r ∧ -1074 ≤ min q r := by omega
  generalize min q r = e at hv hm
  by_cases hU : FP.Core.sumUnits s c q t b r e = 0
  · rw [hU] at hv
    intro h3
    have hv2 : FP.Core.val64 9223372036854775808 = _ := (congrArg FP.Core.val64 h3.symm).trans hv
    rw [v_m0] at hv2
    have h4 : FP.Core.sumSign s t 0 = true := by
      unfold FP.Core.roundRatio at hv2
      rw [if_pos (show Int.natAbs 0 = 0 from rfl)] at hv2
      injection hv2 with h4 _ _
      exact h4.symm
    have h5 : s = true ∧ t = true := by
      unfold FP.Core.sumSign at h4
      rw [if_pos rfl] at h4
      exact Bool.and_eq_true_iff.mp h4
    rw [h5.1, h5.2] at hU
    unfold FP.Core.sumUnits FP.Core.signed FP.Core.inUnits at hU
    simp only [if_true] at hU
    have h6 : c * 2 ^ (q - e).toNat = 0 := by omega
    have h7 : c = 0 := by
      rcases Nat.mul_eq_zero.mp h6 with h | h
      · exact h
      · exact absurd h (Nat.ne_of_gt (Nat.two_pow_pos _))
    have h8 : q = -1074 := by omega
    rw [h5.1, h7, h8, ← v_m0] at h1
    exact h (FP.Core.val64_inj (by rw [h1, v_m0]; intro h; cases h) h1)
  · refine nz_of (rr_nz (r := FP.dadd x y) hv (by decide) (by omega) ?_)
    have h3 : 1 ≤ (FP.Core.sumUnits s c q t b r e).natAbs := by omega
    refine Nat.mul_le_mul h3 (Nat.pow_le_pow_right (by decide) (by omega))
theorem nz_sub {x y : UInt64} (hx : FP.Core.DFin x) (hy : FP.Core.DFin y) (h : nz x) : nz (FP.dsub x y) := by
  obtain ⟨t, b, r, h2⟩ := hy
  have e1 : FP.dsub x y = FP.dadd x (FP.Core.dneg y) := FP.Core.dsub_eq x y
  rw [e1]
  exact nz_add hx ⟨!t, b, r, by rw [FP.Core.val64_dneg, h2]; rfl⟩ h
/-- a whole number by a number that is not great -/
theorem nz_quo (v : Int32) {y : UInt64} {d : Nat} {r : Int} (hy : FP.Core.val64 y = .fin false d r) (hr : -200 ≤ r) (hr2 : r ≤ 200) (hd : d ≠ 0) : nz (FP.ddiv (FP.i2d v) y) := by
  have f2 := fit64 hy
  have hi := FP.Core.i2d_int v
  unfold FP.Core.DInt at hi
  have hv := FP.Core.val64_ddiv (FP.i2d v) y
  rw [hy] at hv
  have hs := FP.Core.val64_i2d v
  simp only [FP.Core.ofInt, FP.Core.round] at hs
  by_cases hv0 : v.toInt = 0
  · have e0 : v = 0 := Int32.toInt_inj.mp hv0
    subst e0
    have h0 : FP.Core.val64 (FP.i2d 0) = .fin false 0 (-1074) := by decide +kernel
    rw [h0] at hv
    simp only [FP.Core.quotient, if_neg hd] at hv
    intro h3
    have hv2 : FP.Core.val64 9223372036854775808 = _ := (congrArg FP.Core.val64 h3.symm).trans hv
    rw [v_m0] at hv2
    unfold FP.Core.roundRatio at hv2
    rw [if_pos rfl] at hv2
    injection hv2 with h4 _ _
    exact absurd h4 (by decide)
  · cases hq : FP.Core.val64 (FP.i2d v) with
    | nan => rw [hq] at hi; exact hi.elim
    | inf s => rw [hq] at hi; exact hi.elim
    | fin s c q =>
      have f1 := fit64 hq
      rw [hq] at hi hv
      simp only [FP.Core.quotient, if_neg hd] at hv
      have hi : FP.Core.signed s (c * 2 ^ q.toNat) = v.toInt * ((2 ^ (-q).toNat : Nat) : Int) := hi
      have hc : 2 ^ (-q).toNat ≤ c * 2 ^ q.toNat := by
        have h1 := congrArg Int.natAbs hi
        rw [Int.natAbs_mul] at h1
        have h2 : (FP.Core.signed s (c * 2 ^ q.toNat)).natAbs = c * 2 ^ q.toNat := by
          unfold FP.Core.signed
          split <;> omega
        rw [h2, Int.natAbs_natCast] at h1
        rw [h1]
        exact Nat.le_mul_of_pos_left _ (by omega)
      refine nz_of (rr_nz (r := FP.ddiv (FP.i2d v) y) hv (by omega) (by omega) ?_)
      have p : 0 < 2 ^ 2000 := Nat.two_pow_pos _
      have hc2 : 2 ^ 1074 ≤ c * 2 ^ (q + 1074).toNat := by
        by_cases hq0 : 0 ≤ q
        · rw [show (-q).toNat = 0 by omega, Nat.pow_zero] at hc
          rw [show (q + 1074).toNat = q.toNat + 1074 by omega, Nat.pow_add, ← Nat.mul_assoc]
          exact Nat.le_mul_of_pos_left _ hc
        · rw [show q.toNat = 0 by omega, Nat.pow_zero, Nat.mul_one] at hc
          refine Nat.le_trans ?_ (Nat.mul_le_mul_right _ hc)
          rw [← Nat.pow_add]
          exact Nat.pow_le_pow_right (by decide) (by omega)
      have h6 : d * 2 ^ 1926 ≤ 2 ^ 1074 * 2 ^ (1926 - r).toNat := by
        refine Nat.le_trans (Nat.mul_le_mul_right _ (Nat.le_of_lt f2.1)) ?_
        rw [← Nat.pow_add, ← Nat.pow_add]
        exact Nat.pow_le_pow_right (by decide) (by omega)
      refine Nat.le_trans h6 ?_
      refine Nat.le_trans (Nat.mul_le_mul_right _ hc2) ?_
      rw [Nat.mul_assoc, ← Nat.pow_add]
      exact Nat.mul_le_mul_left _ (Nat.pow_le_pow_right (by decide) (by omega))
theorem v_100 : FP.Core.val64 4636737291354636288 = .fin false 7036874417766400 (-46) := by decide +kernel
theorem v_1000 : FP.Core.val64 4652007308841189376 = .fin false 8796093022208000 (-43) := by decide +kernel
theorem mn_nz (v : Int32) : nz (FP.ddiv (FP.i2d v) 4636737291354636288) := nz_quo v v_100 (by decide) (by decide) (by decide)
theorem hG_nz (mean : Int32) (sz an : Nat → Int32) : ∀ w, w ≤ 500 → nz (hG mean sz an w)
  | 0, _ => mn_nz mean
  | w + 1, h => nz_add (fb_fin (hG_fb mean sz an w (by omega))) (fb_fin (wv_fb _ _)) (hG_nz mean sz an w (by omega))
theorem cosC_nz (k : Int32) : nz (cosC k) := nz_sub ⟨_, _, _, v_1⟩ (fb_fin (cosK k).2.2.2.2.2.2.2.2.1) (by unfold nz; decide)
