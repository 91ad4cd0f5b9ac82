/-! COS is not zero short of the quarter turn -/
/-- a real between lo and hi, in units of 2^-40 -/
def bw (lo hi : Nat) (x : UInt64) : Prop := ∃ c q, FP.Core.val64 x = .fin false c q ∧ lo * 2 ^ 1034 ≤ c * 2 ^ (q + 1074).toNat ∧ c * 2 ^ (q + 1074).toNat ≤ hi * 2 ^ 1034
theorem unit_of {P : Nat} (h : P < 2 ^ 53) : ∃ V, FP.Core.fits FP.Core.b64 V ∧ V ≠ .nan ∧ FP.Core.zmag FP.Core.b64 V = P * 2 ^ 1034 := by
  obtain ⟨c', q', h3, h4⟩ := FP.Core.round_exact FP.Core.good_b64 false (c := P) (q := -40) h (by rw [qmin64]; omega) (by rw [qmax64]; omega)
  refine ⟨_, FP.Core.round_fits FP.Core.good_b64 (.fin false P (-40)), ?_, ?_⟩
  · rw [h3]; intro h; cases h
  · rw [h3]
    show FP.Core.inUnits c' q' FP.Core.b64.qmin = _
    rw [h4, un_move]
    rfl
theorem bw_rr {r : UInt64} {A B lo hi : Nat} {e : Int} (h : FP.Core.val64 r = FP.Core.roundRatio FP.Core.b64 false A B e) (hB : 0 < B) (he : -3000 ≤ e) (hl : lo < 2 ^ 53) (hh : hi < 2 ^ 53) (h1 : lo * B * 2 ^ 2960 ≤ A * 2 ^ (e + 3000).toNat) (h2 : A * 2 ^ (e + 3000).toNat ≤ hi * B * 2 ^ 2960) : bw lo hi r := by
  have p0 : ∀ z : Nat, z * 2 ^ 1034 * 2 ^ 1926 * B = z * B * 2 ^ 2960 := by
    intro z
    rw [Nat.mul_assoc z, ← Nat.pow_add]
    exact Nat.mul_right_comm _ _ _
  obtain ⟨c, q, h3, -⟩ := rr_bd (s := false) (A := A) (B := B) (e := e) (E := 20) hB (by omega) he (by
    refine Nat.le_trans h2 ?_
    rw [Nat.mul_comm hi B, Nat.mul_assoc]
    refine Nat.mul_le_mul_left _ (Nat.le_trans (Nat.mul_le_mul_right _ (Nat.le_of_lt hh)) ?_)
    rw [← Nat.pow_add]
    exact Nat.pow_le_pow_right (by decide) (by decide))
  have e3 : FP.Core.zmag FP.Core.b64 (.fin false c q) = c * 2 ^ (q + 1074).toNat := un_move c q
  refine ⟨c, q, h.trans h3, ?_, ?_⟩
  · obtain ⟨V, v1, v2, v3⟩ := unit_of hl
    have := FP.Core.zmag_roundRatio_ge (f := FP.Core.b64) FP.Core.good_b64 (s := false) (A := A) (B := B) (e := e) (e0 := -3000) (V := V) hB v1 (by rw [qmin64]; omega) he (by
      rw [v3, qmin64]
      show lo * 2 ^ 1034 * 2 ^ 1926 * B ≤ A * 2 ^ (e + 3000).toNat
      rw [p0]
      exact h1)
    rw [h3, v3, e3] at this
    exact this
  · obtain ⟨V, v1, v2, v3⟩ := unit_of hh
    have := FP.Core.zmag_roundRatio_le (f := FP.Core.b64) FP.Core.good_b64 (s := false) (A := A) (B := B) (e := e) (e0 := -3000) (V := V) hB v1 v2 (by rw [qmin64]; omega) he (by
      rw [v3, qmin64]
      show A * 2 ^ (e + 3000).toNat ≤ hi * 2 ^ 1034 * 2 ^ 1926 * B
      rw [p0]
      exact h2)
    rw [h3, v3, e3] at this
    exact this
theorem bw_mul {x y : UInt64} {a b c d lo hi : Nat} (hx : bw a b x) (hy : bw c d y) (hl : lo < 2 ^ 53) (hh : hi < 2 ^ 53) (h1 : lo * 2 ^ 40 ≤ a * c) (h2 : b * d ≤ hi * 2 ^ 40) : bw lo hi (FP.dmul x y) := by
  obtain ⟨m, q, x1, x2, x3⟩ := hx
  obtain ⟨n, r, y1, y2, y3⟩ := hy
  have f1 := fit64 x1
  have f2 := fit64 y1
  have hv := FP.Core.val64_dmul x y
  rw [x1, y1] at hv
  simp only [FP.Core.exactProduct, FP.Core.round] at hv
  have e1 : m * n * 2 ^ (q + r + 3000).toNat = (m * 2 ^ (q + 1074).toNat) * (n * 2 ^ (r + 1074).toNat) * 2 ^ 852 := by
    rw [show (q + r + 3000).toNat = (q + 1074).toNat + ((r + 1074).toNat + 852) by omega, Nat.pow_add, Nat.pow_add]
    exact (mul4 _ _ _ _ _).symm
  have e2 : ∀ u v : Nat, u * 2 ^ 1034 * (v * 2 ^ 1034) * 2 ^ 852 = u * v * 2 ^ 2920 := by
    intro u v
    rw [show (2920 : Nat) = 1034 + (1034 + 852) from rfl, Nat.pow_add, Nat.pow_add]
    exact mul4 _ _ _ _ _
  have e3 : ∀ z : Nat, z * 1 * 2 ^ 2960 = z * 2 ^ 40 * 2 ^ 2920 := by
    intro z
    rw [Nat.mul_one, Nat.mul_assoc, ← Nat.pow_add]
  refine bw_rr (e := q + r) hv (by decide) (by omega) hl hh ?_ ?_
  · rw [e1, e3]
    refine Nat.le_trans (Nat.mul_le_mul_right _ h1) ?_
    rw [← e2]
    exact Nat.mul_le_mul_right _ (Nat.mul_le_mul x2 y2)
  · rw [e1, e3]
    refine Nat.le_trans ?_ (Nat.mul_le_mul_right _ h2)
    rw [← e2]
    exact Nat.mul_le_mul_right _ (Nat.mul_le_mul x3 y3)
theorem bw_sub {x y : UInt64} {a b c d : Nat} (hx : bw a b x) (hy : bw c d y) (hb : b < 2 ^ 53) (h : d ≤ a) : bw (a - d) (b - c) (FP.dsub x y) := by
  obtain ⟨m, q, x1, x2, x3⟩ := hx
  obtain ⟨n, r, y1, y2, y3⟩ := hy
  have f1 := fit64 x1
  have f2 := fit64 y1
  have hv := FP.Core.val64_dsub x y
  rw [x1, y1] at hv
  simp only [FP.Core.exactSum, FP.Core.negate, FP.Core.round] at hv
  have hm : min q r ≤ q ∧ min q r ≤ r ∧ -1074 ≤ min q r := by omega
  generalize min q r = e at hv hm
  have a1 : m * 2 ^ (q - e).toNat * 2 ^ (e + 1074).toNat = m * 2 ^ (q + 1074).toNat := by
    rw [Nat.mul_assoc, ← Nat.pow_add]
    congr 2
    omega
  have a2 : n * 2 ^ (r - e).toNat * 2 ^ (e + 1074).toNat = n * 2 ^ (r + 1074).toNat := by
    rw [Nat.mul_assoc, ← Nat.pow_add]
    congr 2
    omega
  have hle : n * 2 ^ (r + 1074).toNat ≤ m * 2 ^ (q + 1074).toNat := Nat.le_trans y3 (Nat.le_trans (Nat.mul_le_mul_right _ h) x2)
  have hle2 : n * 2 ^ (r - e).toNat ≤ m * 2 ^ (q - e).toNat := by
    rw [← a1, ← a2] at hle
    exact Nat.le_of_mul_le_mul_right hle (Nat.two_pow_pos _)
  have hU : FP.Core.sumUnits false m q (!false) n r e = ((m * 2 ^ (q - e).toNat - n * 2 ^ (r - e).toNat : Nat) : Int) := by
    unfold FP.Core.sumUnits FP.Core.signed FP.Core.inUnits
    simp only [Bool.false_eq_true, if_false, Bool.not_false, if_true]
    omega
  have hs : FP.Core.sumSign false (!false) (FP.Core.sumUnits false m q (!false) n r e) = false := by
    rw [hU]
    unfold FP.Core.sumSign
    split
    · rfl
    · exact decide_eq_false (by omega)
  rw [hs, hU, Int.natAbs_natCast] at hv
  have e1 : (m * 2 ^ (q - e).toNat - n * 2 ^ (r - e).toNat) * 2 ^ (e + 3000).toNat = (m * 2 ^ (q + 1074).toNat - n * 2 ^ (r + 1074).toNat) * 2 ^ 1926 := by
    rw [show (e + 3000).toNat = (e + 1074).toNat + 1926 by omega, Nat.pow_add, ← Nat.mul_assoc, Nat.sub_mul, a1, a2]
  have e2 : ∀ u v : Nat, (u - v) * 1 * 2 ^ 2960 = (u * 2 ^ 1034 - v * 2 ^ 1034) * 2 ^ 1926 := by
    intro u v
    rw [← Nat.sub_mul, Nat.mul_assoc (u - v) (2 ^ 1034), ← Nat.pow_add, Nat.mul_one]
  refine bw_rr hv (by decide) (by omega) (by have : a * 2 ^ 1034 ≤ b * 2 ^ 1034 := Nat.le_trans x2 x3; have := Nat.le_of_mul_le_mul_right this (Nat.two_pow_pos _); omega) (by omega) ?_ ?_
  · rw [e1, e2]
    exact Nat.mul_le_mul_right _ (Nat.le_trans (Nat.sub_le_sub_right x2 _) (Nat.sub_le_sub_left y3 _))
  · rw [e1, e2]
    exact Nat.mul_le_mul_right _ (Nat.le_trans (Nat.sub_le_sub_right x3 _) (Nat.sub_le_sub_left y2 _))
def bwOk (lo hi : Nat) (x : UInt64) : Bool := match FP.Core.val64 x with
  | .fin false c q => decide (lo * 2 ^ 1034 ≤ c * 2 ^ (q + 1074).toNat ∧ c * 2 ^ (q + 1074).toNat ≤ hi * 2 ^ 1034)
  | _ => false
theorem bw_c {lo hi : Nat} {x : UInt64} (h : bwOk lo hi x = true) : bw lo hi x := by
  unfold bwOk at h
  split at h
  next c q hq => exact ⟨c, q, hq, (of_decide_eq_true h).1, (of_decide_eq_true h).2⟩
  next => cases h
theorem bw_cx {k : Nat} (hk : k < 2 ^ 20) : bw (k * 2 ^ 26) (k * 2 ^ 26) (cx (nI k)) := by
  have hi := FP.Core.i2d_int (nI k)
  unfold FP.Core.DInt at hi
  rw [nI_toInt (by omega)] at hi
  have hv : FP.Core.val64 (cx (nI k)) = _ := FP.Core.val64_ddiv (FP.i2d (nI k)) 4670232813583204352
  have v14 : FP.Core.val64 4670232813583204352 = .fin false (2 ^ 52) (-38) := by decide +kernel
  rw [v14] at hv
  have hs := FP.Core.val64_i2d (nI k)
  simp only [FP.Core.ofInt, FP.Core.round] at hs
  cases hq : FP.Core.val64 (FP.i2d (nI k)) with
  | nan => rw [show FP.Core.val64 (FP.Core.i2d (nI k)) = _ from hq] at hi; exact hi.elim
  | inf s => rw [show FP.Core.val64 (FP.Core.i2d (nI k)) = _ from hq] at hi; exact hi.elim
  | fin s c q =>
    have f1 := fit64 hq
    have hsg : s = false := by
      rw [show FP.Core.val64 (FP.Core.i2d (nI k)) = _ from hq] at hs
      rcases FP.Core.roundRatio_cases FP.Core.b64 (decide ((nI k).toInt < 0)) (nI k).toInt.natAbs 1 0 with ⟨c1, q1, hR⟩ | hR
      · rw [hR] at hs
        injection hs with h1 _ _
        rw [h1, nI_toInt (by omega)]
        exact decide_eq_false (by omega)
      · rw [hR] at hs
        cases hs
    subst hsg
    rw [show FP.Core.val64 (FP.Core.i2d (nI k)) = _ from hq] at hi
    rw [hq] at hv
    simp only [FP.Core.quotient, if_neg (show ¬ (2 : Nat) ^ 52 = 0 by decide)] at hv
    have hi : FP.Core.signed false (c * 2 ^ q.toNat) = (k : Int) * ((2 ^ (-q).toNat : Nat) : Int) := hi
    have hi2 : c * 2 ^ q.toNat = k * 2 ^ (-q).toNat := by
      unfold FP.Core.signed at hi
      simp only [Bool.false_eq_true, if_false] at hi
      rw [← Int.natCast_mul] at hi
      exact Int.ofNat_inj.mp hi
    have hi3 : c * 2 ^ (q + 1074).toNat = k * 2 ^ 1074 := by
      by_cases hq0 : 0 ≤ q
      · rw [show (-q).toNat = 0 by omega, Nat.pow_zero, Nat.mul_one] at hi2
        rw [show (q + 1074).toNat = q.toNat + 1074 by omega, Nat.pow_add, ← Nat.mul_assoc, hi2]
      · rw [show q.toNat = 0 by omega, Nat.pow_zero, Nat.mul_one] at hi2
        rw [hi2, Nat.mul_assoc, ← Nat.pow_add]
        congr 2
        omega
    have e1 : c * 2 ^ (q - -38 + 3000).toNat = k * 2 ^ 26 * 2 ^ 52 * 2 ^ 2960 := by
      rw [show (q - -38 + 3000).toNat = (q + 1074).toNat + 1964 by omega, Nat.pow_add, ← Nat.mul_assoc, hi3, Nat.mul_assoc, Nat.mul_assoc, Nat.mul_assoc, ← Nat.pow_add, ← Nat.pow_add, ← Nat.pow_add]
    exact bw_rr hv (by decide) (by omega) (by omega) (by omega) (Nat.le_of_eq e1.symm) (Nat.le_of_eq e1)
/-- the bounds of the reckoning at k -/
def cosQ (k : Nat) : Bool :=
  let y := k * k * 2 ^ 12
  let l1 := y * 1010737361 / 2 ^ 40
  let h1 := y * 1010737362 / 2 ^ 40 + 1
  let l2 := 22939639695 - h1
  let h2 := 22939639696 - l1
  let l3 := y * l2 / 2 ^ 40
  let h3 := y * h2 / 2 ^ 40 + 1
  let l4 := 278912573549 - h3
  let h4 := 278912573550 - l3
  let l5 := y * l4 / 2 ^ 40
  let h5 := y * h4 / 2 ^ 40 + 1
  let h6 := 1356468100069 - l5
  decide (h1 ≤ 22939639695 ∧ h3 ≤ 278912573549 ∧ h5 ≤ 1356468100068 ∧ y * h6 / 2 ^ 40 + 1 < 2 ^ 40)
theorem cosQ_all : ∀ a, a < 128 → ∀ b, b < 128 → cosQ (128 * a + b) = true := by decide +kernel
theorem fl_lo (u : Nat) : u / 2 ^ 40 * 2 ^ 40 ≤ u := Nat.div_mul_le_self _ _
theorem fl_hi (u : Nat) : u ≤ (u / 2 ^ 40 + 1) * 2 ^ 40 := by
  have := Nat.div_add_mod u (2 ^ 40)
  have := Nat.mod_lt u (show 0 < 2 ^ 40 by decide)
  omega
theorem dv_le {y u : Nat} (h : y ≤ 2 ^ 40) : y * u / 2 ^ 40 ≤ u := Nat.div_le_of_le_mul (Nat.mul_le_mul_right _ h)
theorem bw_hi {lo hi hj : Nat} {x : UInt64} (h : bw lo hi x) (hh : hi ≤ hj) : bw lo hj x := by
  obtain ⟨c, q, h1, h2, h3⟩ := h
  exact ⟨c, q, h1, h2, Nat.le_trans h3 (Nat.mul_le_mul_right _ hh)⟩
theorem cos_chain {k y l1 h1 l3 h3 l5 h5 : Nat} (hY : y ≤ 2 ^ 40) (hy : bw y y (cy (nI k))) (e1 : l1 = y * 1010737361 / 2 ^ 40) (e2 : h1 = y * 1010737362 / 2 ^ 40 + 1) (e3 : l3 = y * (22939639695 - h1) / 2 ^ 40) (e4 : h3 = y * (22939639696 - l1) / 2 ^ 40 + 1) (e5 : l5 = y * (278912573549 - h3) / 2 ^ 40) (e6 : h5 = y * (278912573550 - l3) / 2 ^ 40 + 1) (q1 : h1 ≤ 22939639695) (q2 : h3 ≤ 278912573549) (q3 : h5 ≤ 1356468100068) (q4 : y * (1356468100069 - l5) / 2 ^ 40 + 1 < 2 ^ 40) : ∃ lo, 0 < lo ∧ bw lo (2 ^ 40) (cosC (nI k)) := by
  have c1 : bw l1 h1 (cc1 (nI k)) := bw_mul hy (bw_c (lo := 1010737361) (hi := 1010737362) (by decide +kernel)) (by omega) (by omega) (by rw [e1]; exact fl_lo _) (by rw [e2]; exact fl_hi _)
  have c2 : bw _ _ (cc2 (nI k)) := bw_sub (bw_c (lo := 22939639695) (hi := 22939639696) (by decide +kernel)) c1 (by decide) q1
  have d1 : l3 ≤ 22939639695 - h1 := e3 ▸ dv_le hY
  have c3 : bw l3 h3 (cc3 (nI k)) := bw_mul hy c2 (by omega) (by omega) (by rw [e3]; exact fl_lo _) (by rw [e4]; exact fl_hi _)
  have c4 : bw _ _ (cc4 (nI k)) := bw_sub (bw_c (lo := 278912573549) (hi := 278912573550) (by decide +kernel)) c3 (by decide) q2
  have d3 : l5 ≤ 278912573549 - h3 := e5 ▸ dv_le hY
  have c5 : bw l5 h5 (cc5 (nI k)) := bw_mul hy c4 (by omega) (by omega) (by rw [e5]; exact fl_lo _) (by rw [e6]; exact fl_hi _)
  have c6 : bw _ _ (cc6 (nI k)) := bw_sub (bw_c (lo := 1356468100068) (hi := 1356468100069) (by decide +kernel)) c5 (by decide) q3
  have d5 := dv_le (u := 1356468100068 - h5) hY
  have c7 : bw _ _ (cc7 (nI k)) := bw_mul (lo := y * (1356468100068 - h5) / 2 ^ 40) (hi := y * (1356468100069 - l5) / 2 ^ 40 + 1) hy c6 (by omega) (by omega) (fl_lo _) (fl_hi _)
  have c8 : bw _ _ (cosC (nI k)) := bw_sub (bw_c (lo := 2 ^ 40) (hi := 2 ^ 40) (by decide +kernel)) c7 (by decide) (by omega)
  exact ⟨_, by omega, bw_hi c8 (by omega)⟩
theorem cosC_pos {k : Nat} (hk : k < 16384) : ∃ lo, 0 < lo ∧ bw lo (2 ^ 40) (cosC (nI k)) := by
  have hq : cosQ k = true := by
    have := cosQ_all (k / 128) (by omega) (k % 128) (Nat.mod_lt _ (by decide))
    rw [Nat.div_add_mod] at this
    exact this
  have hx := bw_cx (k := k) (by omega)
  have hyb : k * k ≤ 16384 * 16384 := Nat.mul_le_mul (by omega) (by omega)
  have hy : bw (k * k * 2 ^ 12) (k * k * 2 ^ 12) (cy (nI k)) := bw_mul hx hx (by omega) (by omega) (Nat.le_of_eq (by rw [Nat.mul_mul_mul_comm k (2 ^ 26) k (2 ^ 26), Nat.mul_assoc (k * k)])) (Nat.le_of_eq (by rw [Nat.mul_mul_mul_comm k (2 ^ 26) k (2 ^ 26), Nat.mul_assoc (k * k)]))
  have hY : k * k * 2 ^ 12 ≤ 2 ^ 40 := by omega
  have hQ := of_decide_eq_true (show decide _ = true from hq)
  exact cos_chain hY hy rfl rfl rfl rfl rfl rfl hQ.1 hQ.2.1 hQ.2.2.1 hQ.2.2.2
theorem bw_n0 {lo hi : Nat} {x : UInt64} (h0 : 0 < lo) (h : bw lo hi x) : x ≠ 0 := by
  obtain ⟨c, q, h1, h2, -⟩ := h
  intro hx
  rw [hx, FP.Core.val64_zero] at h1
  injection h1 with _ h3 _
  rw [← h3, Nat.zero_mul] at h2
  have := Nat.mul_pos h0 (Nat.two_pow_pos 1034)
  omega
theorem neg_m0 {x : UInt64} (hx : FP.Core.DFin x) (h : x ≠ 0) : nz (FP.dneg x) := by
  obtain ⟨s, c, q, h1⟩ := hx
  intro h2
  have h3 := FP.val64_dneg x
  have h4 : FP.Core.val64 9223372036854775808 = FP.Core.negate (FP.Core.val64 x) := (congrArg FP.Core.val64 h2.symm).trans h3
  rw [v_m0, h1] at h4
  injection h4 with a b c
  have hs : s = false := by
    cases s with
    | false => rfl
    | true => exact absurd a (by decide)
  refine h (FP.Core.val64_inj (by rw [h1]; intro h; cases h) ?_)
  rw [h1, hs, ← b, ← c, FP.Core.val64_zero, qmin64]
theorem cosN_nz {n : Int32} (h0 : 0 ≤ n.toInt) (h1 : n.toInt < 65536) : nz (cosN n) := by
  have key : ∀ m : Int32, 0 ≤ m.toInt → m.toInt < 16384 → nz (FP.dneg (cosC m)) := by
    intro m h2 h3
    have e : m = nI m.toInt.toNat := by
      apply Int32.toInt_inj.mp
      rw [nI_toInt (by omega)]
      omega
    rw [e]
    obtain ⟨lo, h4, h5⟩ := cosC_pos (k := m.toInt.toNat) (by omega)
    exact neg_m0 (fb_fin (cosK _).2.2.2.2.2.2.2.2.2) (bw_n0 h4 h5)
  have s1 : ∀ z : Int32, 0 ≤ z.toInt → z.toInt ≤ 65536 → (65536 - z).toInt = 65536 - z.toInt := by
    intro z a b
    rw [Int32.toInt_sub, show ((65536 : Int32)).toInt = 65536 by decide, Int.bmod_eq_of_le (by omega) (by omega)]
  have s2 : ∀ z : Int32, 0 ≤ z.toInt → z.toInt ≤ 65536 → (32768 - z).toInt = 32768 - z.toInt := by
    intro z a b
    rw [Int32.toInt_sub, show ((32768 : Int32)).toInt = 32768 by decide, Int.bmod_eq_of_le (by omega) (by omega)]
  have n1 : ((32768 : Int32)).toInt = 32768 := by decide
  have n2 : ((16384 : Int32)).toInt = 16384 := by decide
  by_cases c1 : n ≤ 32768
  · by_cases c2 : n ≤ 16384
    · rw [cosN_a c1 c2]
      exact cosC_nz _
    · rw [cosN_b c1 c2]
      rw [i32_le, n1] at c1
      rw [i32_le, n2] at c2
      exact key _ (by rw [s2 _ (by omega) (by omega)]; omega) (by rw [s2 _ (by omega) (by omega)]; omega)
  · by_cases c2 : 65536 - n ≤ 16384
    · rw [cosN_c c1 c2]
      exact cosC_nz _
    · rw [cosN_d c1 c2]
      rw [i32_le, n1] at c1
      rw [i32_le, n2, s1 _ (by omega) (by omega)] at c2
      exact key _ (by rw [s2 _ (by rw [s1 _ (by omega) (by omega)]; omega) (by rw [s1 _ (by omega) (by omega)]; omega), s1 _ (by omega) (by omega)]; omega) (by rw [s2 _ (by rw [s1 _ (by omega) (by omega)]; omega) (by rw [s1 _ (by omega) (by omega)]; omega), s1 _ (by omega) (by omega)]; omega)
