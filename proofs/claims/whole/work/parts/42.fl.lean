/-! multiples of 2^-130, and reals that are not too small: so that no SURGE is the negative zero -/
def grd (x : UInt64) : Prop := ∃ s c q, FP.Core.val64 x = .fin s c q ∧ 2 ^ 944 ∣ c * 2 ^ (q + 1074).toNat
def lb (L : Nat) (x : UInt64) : Prop := ∃ s c q, FP.Core.val64 x = .fin s c q ∧ (c = 0 ∨ 2 ^ (1074 - L) ≤ c * 2 ^ (q + 1074).toNat)
theorem unit_2 {P k : Nat} (h : P < 2 ^ 53) (hk : k ≤ 2000) : ∃ V, FP.Core.fits FP.Core.b64 V ∧ V ≠ .nan ∧ FP.Core.zmag FP.Core.b64 V = P * 2 ^ k := by
  obtain ⟨c', q', h3, h4⟩ := FP.Core.round_exact FP.Core.good_b64 false (c := P) (q := (k : Int) - 1074) h (by rw [qmin64]; omega) (by rw [qmax64]; omega)
  refine ⟨_, FP.Core.round_fits FP.Core.good_b64 (.fin false P ((k : Int) - 1074)), ?_, ?_⟩
  · rw [h3]; intro h; cases h
  · rw [h3]
    show FP.Core.inUnits c' q' FP.Core.b64.qmin = _
    rw [h4, un_move]
    congr 2
    omega
theorem rr_ge {r : UInt64} {s t : Bool} {A B c P k : Nat} {e q : Int} (h : FP.Core.val64 r = FP.Core.roundRatio FP.Core.b64 s A B e) (hr : FP.Core.val64 r = .fin t c q) (hB : 0 < B) (he : -3000 ≤ e) (hP : P < 2 ^ 53) (hk : k ≤ 2000) (h1 : P * 2 ^ k * 2 ^ 1926 * B ≤ A * 2 ^ (e + 3000).toNat) : P * 2 ^ k ≤ c * 2 ^ (q + 1074).toNat := by
  obtain ⟨V, v1, v2, v3⟩ := unit_2 hP hk
  have := FP.Core.zmag_roundRatio_ge (f := FP.Core.b64) FP.Core.good_b64 (s := s) (A := A) (B := B) (e := e) (e0 := -3000) (V := V) hB v1 (by rw [qmin64]; omega) he (by
    rw [v3, qmin64]
    exact h1)
  rw [← h, hr, v3] at this
  rw [← un_move]
  exact this
theorem big_dvd {c : Nat} {q : Int} (hc : c < 2 ^ 53) (hq : -1074 ≤ q) (h : 2 ^ 997 ≤ c * 2 ^ (q + 1074).toNat) : 2 ^ 944 ∣ c * 2 ^ (q + 1074).toNat := by
  have h3 : 2 ^ 997 < 2 ^ 53 * 2 ^ (q + 1074).toNat := Nat.lt_of_le_of_lt h (Nat.mul_lt_mul_of_pos_right hc (Nat.two_pow_pos _))
  rw [← Nat.pow_add] at h3
  have h4 := (Nat.pow_lt_pow_iff_right (by decide : 1 < 2)).mp h3
  exact Nat.dvd_trans (Nat.pow_dvd_pow 2 (by omega)) (Nat.dvd_mul_left _ _)
theorem lb_gr {L : Nat} {x : UInt64} (hL : L ≤ 77) (h : lb L x) : grd x := by
  obtain ⟨s, c, q, h1, h2⟩ := h
  obtain ⟨f1, f2, f3, f4⟩ := fit64 h1
  refine ⟨s, c, q, h1, ?_⟩
  rcases h2 with h2 | h2
  · rw [h2, Nat.zero_mul]
    exact Nat.dvd_zero _
  · exact big_dvd f1 f2 (Nat.le_trans (Nat.pow_le_pow_right (by decide) (by omega)) h2)
theorem grd_lb {x : UInt64} (h : grd x) : lb 130 x := by
  obtain ⟨s, c, q, h1, h2⟩ := h
  refine ⟨s, c, q, h1, ?_⟩
  rcases Nat.eq_zero_or_pos c with h3 | h3
  · exact Or.inl h3
  · exact Or.inr (Nat.le_of_dvd (Nat.mul_pos h3 (Nat.two_pow_pos _)) h2)
theorem grd_add {E : Nat} {x y : UInt64} (hE : E + 1 ≤ 900) (bx : fb E x) (by' : fb E y) (hx : grd x) (hy : grd y) : grd (FP.dadd x y) := by
  obtain ⟨t0, c0, q0, r1, -⟩ := fb_add hE bx by'
  obtain ⟨s, c, q, h1, h2⟩ := hx
  obtain ⟨t, d, r, h3, h4⟩ := hy
  have f1 := fit64 h1
  have f2 := fit64 h3
  have f0 := fit64 r1
  have hv := FP.Core.val64_dadd x y
  rw [h1, h3] at hv
  simp only [FP.Core.exactSum, FP.Core.round] at hv
  have hm : min q r ≤ q ∧ min q r ≤ r ∧ -1074 ≤ min q r := by omega
  generalize min q r = e at hv hm
  have a1 : c * 2 ^ (q - e).toNat * 2 ^ (e + 1074).toNat = c * 2 ^ (q + 1074).toNat := by
    rw [Nat.mul_assoc, ← Nat.pow_add]
    congr 2
    omega
  have a2 : d * 2 ^ (r - e).toNat * 2 ^ (e + 1074).toNat = d * 2 ^ (r + 1074).toNat := by
    rw [Nat.mul_assoc, ← Nat.pow_add]
    congr 2
    omega
  have hd : 2 ^ 944 ∣ (FP.Core.sumUnits s c q t d r e).natAbs * 2 ^ (e + 1074).toNat := by
    have k1 : ((2 ^ 944 : Nat) : Int) ∣ (FP.Core.sumUnits s c q t d r e) * ((2 ^ (e + 1074).toNat : Nat) : Int) := by
      unfold FP.Core.sumUnits FP.Core.signed FP.Core.inUnits
      rw [Int.add_mul]
      refine Int.dvd_add ?_ ?_
      · split
        · rw [Int.neg_mul, ← Int.natCast_mul, a1]
          exact Int.dvd_neg.mpr (Int.natCast_dvd_natCast.mpr h2)
        · rw [← Int.natCast_mul, a1]
          exact Int.natCast_dvd_natCast.mpr h2
      · split
        · rw [Int.neg_mul, ← Int.natCast_mul, a2]
          exact Int.dvd_neg.mpr (Int.natCast_dvd_natCast.mpr h4)
        · rw [← Int.natCast_mul, a2]
          exact Int.natCast_dvd_natCast.mpr h4
    have k2 := Int.natAbs_dvd_natAbs.mpr k1
    rw [Int.natAbs_mul, Int.natAbs_natCast, Int.natAbs_natCast] at k2
    exact k2
  generalize FP.Core.sumSign s t (FP.Core.sumUnits s c q t d r e) = sg at hv
  generalize (FP.Core.sumUnits s c q t d r e).natAbs = A at hv hd
  obtain ⟨m, hm2⟩ := hd
  by_cases hs : m < 2 ^ 53
  · obtain ⟨c', q', g1, g2⟩ := un_rd (x := FP.dadd x y) hv (c := m) (q := -130) hs (by omega) (by omega) (by
      have p : 0 < 2 ^ 944 := Nat.two_pow_pos _
      have p2 : 0 < 2 ^ (e + 1074).toNat := Nat.two_pow_pos _
      by_cases he : -130 ≤ e
      · rw [show (-130 - e).toNat = 0 by omega, Nat.pow_zero, Nat.mul_one]
        refine Nat.eq_of_mul_eq_mul_right p ?_
        rw [Nat.mul_comm m, ← hm2, Nat.mul_assoc, ← Nat.pow_add]
        congr 2
        omega
      · rw [show (e - -130).toNat = 0 by omega, Nat.pow_zero, Nat.mul_one]
        refine Nat.eq_of_mul_eq_mul_right p2 ?_
        rw [hm2, Nat.mul_assoc, ← Nat.pow_add, Nat.mul_comm]
        congr 2
        omega)
    refine ⟨_, c', q', g1, ?_⟩
    rw [g2]
    exact Nat.dvd_mul_left _ _
  · refine ⟨t0, c0, q0, r1, big_dvd f0.1 f0.2.1 ?_⟩
    have := rr_ge (P := 2 ^ 52) (k := 945) hv r1 (by decide) (by omega) (by decide) (by decide) (by
      rw [show (e + 3000).toNat = (e + 1074).toNat + 1926 by omega, Nat.pow_add, ← Nat.mul_assoc, hm2, Nat.mul_one]
      refine Nat.mul_le_mul_right _ ?_
      rw [← Nat.pow_add, Nat.mul_comm]
      refine Nat.le_trans ?_ (Nat.mul_le_mul_right _ (Nat.le_of_not_lt hs))
      rw [← Nat.pow_add]
      exact Nat.pow_le_pow_right (by decide) (by decide))
    rw [← Nat.pow_add] at this
    exact this
theorem grd_neg {x : UInt64} (h : grd x) : grd (FP.Core.dneg x) := by
  obtain ⟨s, c, q, h1, h2⟩ := h
  exact ⟨!s, c, q, by rw [FP.Core.val64_dneg, h1]; rfl, h2⟩
theorem fb_neg' {E : Nat} {x : UInt64} (hx : fb E x) : fb E (FP.Core.dneg x) := by
  obtain ⟨s, c, q, h1, h2⟩ := hx
  exact ⟨!s, c, q, by rw [FP.Core.val64_dneg, h1]; rfl, h2⟩
theorem grd_sub {E : Nat} {x y : UInt64} (hE : E + 1 ≤ 900) (bx : fb E x) (by' : fb E y) (hx : grd x) (hy : grd y) : grd (FP.dsub x y) := by
  have e1 : FP.dsub x y = FP.dadd x (FP.Core.dneg y) := FP.Core.dsub_eq x y
  rw [e1]
  exact grd_add hE bx (fb_neg' by') hx (grd_neg hy)
theorem lb_mul {E F L M : Nat} {x y : UInt64} (hE : E + F ≤ 900) (bx : fb E x) (by' : fb F y) (hL : L + M ≤ 1000) (hx : lb L x) (hy : lb M y) : lb (L + M) (FP.dmul x y) := by
  obtain ⟨t0, c0, q0, r1, -⟩ := fb_mul hE bx by'
  obtain ⟨s, c, q, h1, h2⟩ := hx
  obtain ⟨t, d, r, h3, h4⟩ := hy
  have f1 := fit64 h1
  have f2 := fit64 h3
  have hv := FP.Core.val64_dmul x y
  rw [h1, h3] at hv
  simp only [FP.Core.exactProduct, FP.Core.round] at hv
  have z : ∀ A, A = 0 → FP.Core.roundRatio FP.Core.b64 (s != t) A 1 (q + r) = .fin (s != t) 0 FP.Core.b64.qmin := by
    intro A hA
    unfold FP.Core.roundRatio
    rw [if_pos hA]
  rcases h2 with h2 | h2
  · exact ⟨_, _, _, hv.trans (z _ (by rw [h2, Nat.zero_mul])), Or.inl rfl⟩
  rcases h4 with h4 | h4
  · exact ⟨_, _, _, hv.trans (z _ (by rw [h4, Nat.mul_zero])), Or.inl rfl⟩
  refine ⟨t0, c0, q0, r1, Or.inr ?_⟩
  have := rr_ge (P := 1) (k := 1074 - (L + M)) hv r1 (by decide) (by omega) (by decide) (by omega) (by
    have e1 : c * d * 2 ^ (q + r + 3000).toNat = (c * 2 ^ (q + 1074).toNat) * (d * 2 ^ (r + 1074).toNat) * 2 ^ 852 := by
      rw [show (q + r + 3000).toNat = (q + 1074).toNat + ((r + 1074).toNat + 852) by omega, Nat.pow_add, Nat.pow_add]
      exact (mul4 _ _ _ _ _).symm
    rw [e1]
    refine Nat.le_trans ?_ (Nat.mul_le_mul_right _ (Nat.mul_le_mul h2 h4))
    rw [Nat.one_mul, Nat.mul_one, ← Nat.pow_add, ← Nat.pow_add, ← Nat.pow_add]
    exact Nat.pow_le_pow_right (by decide) (by omega))
  rw [Nat.one_mul] at this
  exact this
/-- whole numbers in units -/
theorem int_un {k : Int} {y : UInt64} (h : FP.Core.DInt k y) : ∃ s c q, FP.Core.val64 y = .fin s c q ∧ c * 2 ^ (q + 1074).toNat = k.natAbs * 2 ^ 1074 ∧ (0 < k → s = false) := by
  unfold FP.Core.DInt at h
  cases hq : FP.Core.val64 y with
  | nan => rw [hq] at h; exact h.elim
  | inf s => rw [hq] at h; exact h.elim
  | fin s c q =>
    have f1 := fit64 hq
    rw [hq] at h
    have hi : FP.Core.signed s (c * 2 ^ q.toNat) = k * ((2 ^ (-q).toNat : Nat) : Int) := h
    refine ⟨s, c, q, rfl, ?_, ?_⟩
    · have h1 := congrArg Int.natAbs hi
      rw [Int.natAbs_mul] at h1
      have h2 : (FP.Core.signed s (c * 2 ^ q.toNat)).natAbs = c * 2 ^ q.toNat := by
        unfold FP.Core.signed
        split <;> omega
      rw [h2, Int.natAbs_natCast] at h1
      by_cases hq0 : 0 ≤ q
      · rw [show (-q).toNat = 0 by omega, Nat.pow_zero, Nat.mul_one] at h1
        rw [show (q + 1074).toNat = q.toNat + 1074 by omega, Nat.pow_add, ← Nat.mul_assoc, h1]
      · rw [show q.toNat = 0 by omega, Nat.pow_zero, Nat.mul_one] at h1
        rw [h1, Nat.mul_assoc, ← Nat.pow_add]
        congr 2
        omega
    · intro hk
      cases s with
      | false => rfl
      | true =>
        have p : 0 < k * ((2 ^ (-q).toNat : Nat) : Int) := Int.mul_pos hk (Int.natCast_pos.mpr (Nat.two_pow_pos _))
        rw [← hi] at p
        unfold FP.Core.signed at p
        simp only [if_true] at p
        omega
theorem ac5 (a b c e : Nat) : a * b * (c * e) = e * (a * c * b) := by ac_rfl
theorem lb_quo0 {v k : Int} {x y : UInt64} (hx : FP.Core.DInt v x) (hy : FP.Core.DInt k y) (h0 : 0 < k) (hk : k ≤ 2 ^ 20) (hv2 : v.natAbs ≤ 2 ^ 40) : (v ≠ 0 → ∃ s c q, FP.Core.val64 (FP.ddiv x y) = .fin s c q ∧ 2 ^ (1074 - 20) ≤ c * 2 ^ (q + 1074).toNat) ∧ lb 20 (FP.ddiv x y) := by
  obtain ⟨s, c, q, x1, x2, x3⟩ := int_un hx
  obtain ⟨t, d, r, y1, y2, y3⟩ := int_un hy
  have f1 := fit64 x1
  have f2 := fit64 y1
  have hd : d ≠ 0 := by
    intro h
    rw [h, Nat.zero_mul] at y2
    have := Nat.mul_pos (show 0 < k.natAbs by omega) (Nat.two_pow_pos 1074)
    omega
  have bx : fb 40 x := ⟨s, c, q, x1, by rw [x2, Nat.pow_add]; exact Nat.mul_le_mul_right _ hv2⟩
  have gy : ge1 y := ⟨t, d, r, y1, by rw [y2]; exact Nat.le_mul_of_pos_left _ (by omega)⟩
  obtain ⟨t0, c0, q0, r1, -⟩ := fb_div (by omega) bx gy
  have hv := FP.Core.val64_ddiv x y
  rw [x1, y1] at hv
  simp only [FP.Core.quotient, if_neg hd] at hv
  by_cases hv0 : v = 0
  · rw [hv0] at x2
    have hc : c = 0 := by
      have : c * 2 ^ (q + 1074).toNat = 0 := by rw [x2, Int.natAbs_zero, Nat.zero_mul]
      rcases Nat.mul_eq_zero.mp this with h | h
      · exact h
      · exact absurd h (Nat.ne_of_gt (Nat.two_pow_pos _))
    refine ⟨fun h => absurd hv0 h, s != t, 0, FP.Core.b64.qmin, hv.trans ?_, Or.inl rfl⟩
    unfold FP.Core.roundRatio
    rw [if_pos hc]
  · have key : 2 ^ (1074 - 20) ≤ c0 * 2 ^ (q0 + 1074).toNat := ?_
    refine ⟨fun _ => ⟨t0, c0, q0, r1, key⟩, t0, c0, q0, r1, Or.inr key⟩
    have := rr_ge (P := 1) (k := 1054) hv r1 (by omega) (by omega) (by decide) (by decide) (by
      have p : 0 < 2 ^ (r + 1074).toNat := Nat.two_pow_pos _
      refine Nat.le_of_mul_le_mul_right ?_ p
      have a1 : c * 2 ^ (q - r + 3000).toNat * 2 ^ (r + 1074).toNat = c * 2 ^ (q + 1074).toNat * 2 ^ 3000 := by
        rw [Nat.mul_assoc, Nat.mul_assoc, ← Nat.pow_add, ← Nat.pow_add]
        congr 2; omega
      have a2 : 1 * 2 ^ 1054 * 2 ^ 1926 * d * 2 ^ (r + 1074).toNat = 2 ^ 2980 * (d * 2 ^ (r + 1074).toNat) := by
        rw [Nat.one_mul, ← Nat.pow_add, Nat.mul_assoc]
      rw [a1, a2, x2, y2]
      have a3 : v.natAbs * 2 ^ 1074 * 2 ^ 3000 = 2 ^ 2980 * (v.natAbs * 2 ^ 20 * 2 ^ 1074) := by
        rw [show (3000 : Nat) = 20 + 2980 from rfl, Nat.pow_add 2 20 2980]
        exact ac5 _ _ _ _
      rw [a3]
      refine Nat.mul_le_mul_left _ (Nat.mul_le_mul_right _ ?_)
      exact Nat.le_trans (show k.natAbs ≤ 2 ^ 20 by omega) (Nat.le_mul_of_pos_left _ (by omega)))
    rw [Nat.one_mul] at this
    exact this
theorem lb_quo {v k : Int} {x y : UInt64} (hx : FP.Core.DInt v x) (hy : FP.Core.DInt k y) (h0 : 0 < k) (hk : k ≤ 2 ^ 20) (hv2 : v.natAbs ≤ 2 ^ 40) : lb 20 (FP.ddiv x y) := (lb_quo0 hx hy h0 hk hv2).2
theorem dint_i2d (v : Int32) : FP.Core.DInt v.toInt (FP.i2d v) := FP.Core.i2d_int v
theorem dint_of {x : UInt64} {v : Int32} (h : x = FP.i2d v) : FP.Core.DInt v.toInt x := by rw [h]; exact dint_i2d v
theorem d_100 : FP.Core.DInt 100 4636737291354636288 := dint_of (v := 100) (by decide +kernel)
theorem d_1000 : FP.Core.DInt 1000 4652007308841189376 := dint_of (v := 1000) (by decide +kernel)
theorem lb_100 (v : Int32) : lb 20 (FP.ddiv (FP.i2d v) 4636737291354636288) := lb_quo (dint_i2d v) d_100 (by decide) (by decide) (Nat.le_trans (i32_abs v) (by decide))
theorem lb_1000 (v : Int32) : lb 20 (FP.ddiv (FP.i2d v) 4652007308841189376) := lb_quo (dint_i2d v) d_1000 (by decide) (by decide) (Nat.le_trans (i32_abs v) (by decide))
def lbOk (L : Nat) (x : UInt64) : Bool := match FP.Core.val64 x with
  | .fin _ c q => decide (c = 0 ∨ 2 ^ (1074 - L) ≤ c * 2 ^ (q + 1074).toNat)
  | _ => false
theorem lb_c {L : Nat} {x : UInt64} (h : lbOk L x = true) : lb L x := by
  unfold lbOk at h
  split at h
  next s c q hq => exact ⟨s, c, q, hq, of_decide_eq_true h⟩
  next => cases h
theorem lb_neg {L : Nat} {x : UInt64} (h : lb L x) : lb L (FP.dneg x) := by
  obtain ⟨s, c, q, h1, h2⟩ := h
  exact ⟨!s, c, q, by rw [FP.val64_dneg, h1]; rfl, h2⟩
theorem lb_cosC {k : Nat} (hk : k ≤ 16384) : lb 57 (cosC (nI k)) := by
  rcases Nat.lt_or_ge k 16384 with h | h
  · obtain ⟨lo, h0, c, q, h1, h2, -⟩ := cosC_pos h
    refine ⟨false, c, q, h1, Or.inr ?_⟩
    refine Nat.le_trans ?_ h2
    refine Nat.le_trans (Nat.pow_le_pow_right (n := 2) (j := 1034) (by decide) (by decide)) (Nat.le_mul_of_pos_left _ h0)
  · rw [show k = 16384 by omega]
    exact lb_c (by decide +kernel)
theorem lb_cosN {n : Int32} (h0 : 0 ≤ n.toInt) (h1 : n.toInt < 65536) : lb 57 (cosN n) := by
  have key : ∀ m : Int32, 0 ≤ m.toInt → m.toInt ≤ 16384 → lb 57 (cosC m) := by
    intro m h2 h3
    have e : m = nI m.toInt.toNat := by
      apply Int32.toInt_inj.mp
      rw [nI_toInt (by omega)]
      omega
    rw [e]
    exact lb_cosC (by omega)
  have s1 : ∀ z : Int32, 0 ≤ z.toInt → z.toInt ≤ 65536 → (65536 - z).toInt = 65536 - z.toInt := by
    intro z a b
    rw [Int32.toInt_sub, show ((65536 : Int32)).toInt = 65536 by decide, Int.bmod_eq_of_le (by omega) (by omega)]
  have s2 : ∀ z : Int32, 0 ≤ z.toInt → z.toInt ≤ 65536 → (32768 - z).toInt = 32768 - z.toInt := by
    intro z a b
    rw [Int32.toInt_sub, show ((32768 : Int32)).toInt = 32768 by decide, Int.bmod_eq_of_le (by omega) (by omega)]
  have n1 : ((32768 : Int32)).toInt = 32768 := by decide
  have n2 : ((16384 : Int32)).toInt = 16384 := by decide
  by_cases c1 : n ≤ 32768
  · by_cases c2 : n ≤ 16384
    · rw [cosN_a c1 c2]
      rw [i32_le, n2] at c2
      exact key _ h0 c2
    · rw [cosN_b c1 c2]
      rw [i32_le, n1] at c1
      rw [i32_le, n2] at c2
      exact lb_neg (key _ (by rw [s2 _ (by omega) (by omega)]; omega) (by rw [s2 _ (by omega) (by omega)]; omega))
  · by_cases c2 : 65536 - n ≤ 16384
    · rw [cosN_c c1 c2]
      rw [i32_le, n2, s1 _ (by omega) (by omega)] at c2
      exact key _ (by rw [s1 _ (by omega) (by omega)]; omega) (by rw [s1 _ (by omega) (by omega)]; omega)
    · rw [cosN_d c1 c2]
      rw [i32_le, n1] at c1
      rw [i32_le, n2, s1 _ (by omega) (by omega)] at c2
      exact lb_neg (key _ (by rw [s2 _ (by rw [s1 _ (by omega) (by omega)]; omega) (by rw [s1 _ (by omega) (by omega)]; omega), s1 _ (by omega) (by omega)]; omega) (by rw [s2 _ (by rw [s1 _ (by omega) (by omega)]; omega) (by rw [s1 _ (by omega) (by omega)]; omega), s1 _ (by omega) (by omega)]; omega))
theorem lb_cosM (a : Int32) : lb 57 (cosN (modN a)) := by
  rw [modN_val]
  exact lb_cosN (by rw [nI_toInt (by omega)]; omega) (by rw [nI_toInt (by omega)]; omega)
theorem wv_grd (v a : Int32) : grd (FP.dmul (FP.ddiv (FP.i2d v) 4652007308841189376) (cosN (modN a))) := by
  have h := lb_mul (E := 31) (F := 252) (L := 20) (M := 57) (by omega) (sz_fb v) (cosN_fb (modN a)) (by omega) (lb_1000 v) (lb_cosM a)
  exact lb_gr (by omega) h
theorem hG_grd (mean : Int32) (sz an : Nat → Int32) : ∀ w, w ≤ 500 → grd (hG mean sz (fun i => modN (an i)) w)
  | 0, _ => lb_gr (by decide) (lb_100 mean)
  | w + 1, h => grd_add (E := 283 + w) (by omega) (hG_fb mean sz _ w (by omega)) (fb_mono (by omega) (wv_fb _ _)) (hG_grd mean sz an w (by omega)) (wv_grd _ _)
/-- a SURGE is not the negative zero -/
theorem sg_nz {E : Nat} {x f : UInt64} {v k : Int} {a b : UInt64} (hE : E ≤ 800) (bx : fb E x) (gx : grd x) (zx : nz x) (ha : FP.Core.DInt v a) (hb : FP.Core.DInt k b) (hv : 0 < v) (hv2 : v ≤ 2 ^ 40) (hk : 0 < k) (hk2 : k ≤ 2 ^ 20) (hf : f = FP.ddiv a b) : nz (FP.dmul x f) ∧ fb (E + 40) (FP.dmul x f) ∧ fb 40 f := by
  obtain ⟨s, c, q, x1, x2, x3⟩ := int_un ha
  obtain ⟨t, d, r, y1, y2, y3⟩ := int_un hb
  have hd : d ≠ 0 := by
    intro h
    rw [h, Nat.zero_mul] at y2
    have := Nat.mul_pos (show 0 < k.natAbs by omega) (Nat.two_pow_pos 1074)
    omega
  have ba : fb 40 a := ⟨s, c, q, x1, by rw [x2, Nat.pow_add]; exact Nat.mul_le_mul_right _ (by omega)⟩
  have gb : ge1 b := ⟨t, d, r, y1, by rw [y2]; exact Nat.le_mul_of_pos_left _ (by omega)⟩
  have bf : fb 40 f := by rw [hf]; exact fb_div (by omega) ba gb
  have lf : ∃ s c q, FP.Core.val64 f = .fin s c q ∧ 2 ^ (1074 - 20) ≤ c * 2 ^ (q + 1074).toNat := by rw [hf]; exact (lb_quo0 ha hb hk hk2 (by omega)).1 (by omega)
  have hv := FP.Core.val64_ddiv a b
  rw [x1, y1] at hv
  simp only [FP.Core.quotient, if_neg hd] at hv
  rw [x3 (by assumption), y3 hk] at hv
  refine ⟨?_, fb_mul (by omega) bx bf, bf⟩
  obtain ⟨s1, c1, q1, f1, f2⟩ := lf
  have hs1 : s1 = false := by
    have hf2 : FP.Core.val64 f = FP.Core.roundRatio FP.Core.b64 false c d (q - r) := by rw [hf]; exact hv
    rw [f1] at hf2
    rcases FP.Core.roundRatio_cases FP.Core.b64 false c d (q - r) with ⟨c9, q9, hR⟩ | hR
    · rw [hR] at hf2
      injection hf2 with h1 _ _
    · rw [hR] at hf2
      cases hf2
  subst hs1
  obtain ⟨s2, c2, q2, g1, g2⟩ := grd_lb gx
  have w1 := fit64 f1
  have w2 := fit64 g1
  have hm := FP.Core.val64_dmul x f
  rw [g1, f1] at hm
  simp only [FP.Core.exactProduct, FP.Core.round] at hm
  rcases g2 with g2 | g2
  · have hs2 : s2 = false := by
      cases s2 with
      | false => rfl
      | true =>
        have : q2 = -1074 := by omega
        rw [g2, this, ← v_m0] at g1
        exact absurd (FP.Core.val64_inj (by rw [g1, v_m0]; intro h; cases h) g1) zx
    intro h3
    have hm2 : FP.Core.val64 9223372036854775808 = _ := (congrArg FP.Core.val64 h3.symm).trans hm
    rw [v_m0, g2, Nat.zero_mul, hs2] at hm2
    unfold FP.Core.roundRatio at hm2
    rw [if_pos rfl] at hm2
    injection hm2 with h4 _ _
    exact absurd h4 (by decide)
  · refine nz_of (rr_nz (r := FP.dmul x f) hm (by decide) (by omega) ?_)
    have e1 : c2 * c1 * 2 ^ (q2 + q1 + 3000).toNat = (c2 * 2 ^ (q2 + 1074).toNat) * (c1 * 2 ^ (q1 + 1074).toNat) * 2 ^ 852 := by
      rw [show (q2 + q1 + 3000).toNat = (q2 + 1074).toNat + ((q1 + 1074).toNat + 852) by omega, Nat.pow_add, Nat.pow_add]
      exact (mul4 _ _ _ _ _).symm
    rw [e1]
    refine Nat.le_trans ?_ (Nat.mul_le_mul_right _ (Nat.mul_le_mul g2 f2))
    rw [Nat.one_mul, ← Nat.pow_add, ← Nat.pow_add]
    exact Nat.pow_le_pow_right (by decide) (by decide)
