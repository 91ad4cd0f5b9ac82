/-! reals: what is finite, and how great -/
/-- a finite real of magnitude at most 2^E -/
def fb (E : Nat) (x : UInt64) : Prop := ∃ s c q, FP.Core.val64 x = .fin s c q ∧ c * 2 ^ (q + 1074).toNat ≤ 2 ^ (E + 1074)
/-- a finite real of magnitude at least 1 -/
def ge1 (x : UInt64) : Prop := ∃ s c q, FP.Core.val64 x = .fin s c q ∧ 2 ^ 1074 ≤ c * 2 ^ (q + 1074).toNat
theorem and_mask (r : UInt64) : (r &&& 0x7fffffffffffffff).toNat = r.toNat % 2 ^ 63 := by
  rw [UInt64.toNat_and]
  have : (0x7fffffffffffffff : UInt64).toNat = 2 ^ 63 - 1 := by decide
  rw [this, Nat.and_two_pow_sub_one_eq_mod]
theorem n64_of {r : UInt64} (h : FP.Core.val64 r ≠ .nan) : vf_n64 r := by
  have h1 := (FP.Core.ne_nan r).mp h
  unfold vf_n64
  rw [UInt64.le_iff_toNat_le, and_mask]
  exact h1
theorem fb_n {E : Nat} {x : UInt64} (h : fb E x) : vf_n64 x := by
  obtain ⟨s, c, q, h1, -⟩ := h
  exact n64_of (by rw [h1]; intro h; cases h)
theorem fit64 {x : UInt64} {s : Bool} {c : Nat} {q : Int} (h : FP.Core.val64 x = .fin s c q) : c < 2 ^ 53 ∧ -1074 ≤ q ∧ q ≤ 971 ∧ (q = -1074 ∨ 2 ^ 52 ≤ c) := by
  have h1 := FP.Core.val64_fits x
  rw [h] at h1
  exact h1
theorem pow_le_pow_iff {a b : Nat} (h : 2 ^ a ≤ 2 ^ b) : a ≤ b := (Nat.pow_le_pow_iff_right (by omega)).mp h
theorem rr_set {s : Bool} {c : Nat} {q : Int} {E : Nat} (hc : c ≤ 2 ^ 53) (hval : c * 2 ^ (q + 1074).toNat ≤ 2 ^ (E + 1074)) (hq : -1074 ≤ q ∧ q ≤ 900) : ∃ c' q', FP.Core.settle FP.Core.b64 s c q = .fin s c' q' ∧ c' * 2 ^ (q' + 1074).toNat ≤ 2 ^ (E + 1074) := by
  unfold FP.Core.settle FP.Core.bound
  have p1 : FP.Core.b64.p = 53 := rfl
  have p2 : FP.Core.b64.qmax = 971 := by decide
  have p3 : FP.Core.b64.tails = 2 ^ 52 := rfl
  rw [p1, p2, p3]
  by_cases hlt : c < 2 ^ 53
  · rw [if_pos hlt, if_pos (by omega)]
    exact ⟨c, q, rfl, hval⟩
  · rw [if_neg hlt, if_pos (by omega)]
    refine ⟨2 ^ 52, q + 1, rfl, ?_⟩
    have e1 : c = 2 ^ 53 := by omega
    rw [e1, ← Nat.pow_add] at hval
    rw [← Nat.pow_add]
    rw [show 52 + (q + 1 + 1074).toNat = 53 + (q + 1074).toNat by omega]
    exact hval
theorem mul4 (c X d Y Z : Nat) : c * X * (d * Y) * Z = c * d * (X * (Y * Z)) := by ac_rfl
theorem mul3 (d X Y : Nat) : d * X * Y = d * Y * X := by ac_rfl
theorem rr_bd {s : Bool} {A B : Nat} {e : Int} {E : Nat} (hB : 0 < B) (hE : E ≤ 900) (he : -3000 ≤ e) (h : A * 2 ^ (e + 3000).toNat ≤ B * 2 ^ (E + 3000)) :
    ∃ c q, FP.Core.roundRatio FP.Core.b64 s A B e = .fin s c q ∧ c * 2 ^ (q + 1074).toNat ≤ 2 ^ (E + 1074) := by
  unfold FP.Core.roundRatio
  by_cases hA : A = 0
  · rw [if_pos hA]
    exact ⟨0, _, rfl, by simp⟩
  rw [if_neg hA]
  have hA : 0 < A := by omega
  have hq1 : -1074 ≤ FP.Core.quantum FP.Core.b64 A B e := FP.Core.quantum_ge FP.Core.b64 A B e
  have hq2 := FP.Core.quantum_not_below (f := FP.Core.b64) hA hB e
  have hc := FP.Core.nearest_units_le (f := FP.Core.b64) hA hB e
  generalize hq : FP.Core.quantum FP.Core.b64 A B e = q at *
  have hq3 : q = -1074 ∨ q + 52 ≤ E := by
    rcases hq2 with h2 | h2
    · exact Or.inl h2
    · refine Or.inr ?_
      unfold FP.Core.Below at h2
      have h2 : B * 2 ^ (q - e + 52).toNat ≤ A * 2 ^ (-(q - e + 52)).toNat := Nat.le_of_not_lt h2
      have h3 : (B * 2 ^ (q - e + 52).toNat) * 2 ^ (e + 3000).toNat ≤ (A * 2 ^ (-(q - e + 52)).toNat) * 2 ^ (e + 3000).toNat := Nat.mul_le_mul_right _ h2
      have h4 : (A * 2 ^ (e + 3000).toNat) * 2 ^ (-(q - e + 52)).toNat ≤ (B * 2 ^ (E + 3000)) * 2 ^ (-(q - e + 52)).toNat := Nat.mul_le_mul_right _ h
      have h5 : B * 2 ^ ((q - e + 52).toNat + (e + 3000).toNat) ≤ B * 2 ^ (E + 3000 + (-(q - e + 52)).toNat) := by
        rw [Nat.pow_add, Nat.pow_add, ← Nat.mul_assoc, ← Nat.mul_assoc]
        refine Nat.le_trans h3 ?_
        rw [Nat.mul_assoc, Nat.mul_comm (2 ^ _) (2 ^ (e + 3000).toNat), ← Nat.mul_assoc]
        exact h4
      have h6 := pow_le_pow_iff (Nat.le_of_mul_le_mul_left h5 hB)
      omega
  have hM : FP.Core.nearest (FP.Core.unitsNum A e q) (FP.Core.unitsDen B e q) ≤ 2 ^ ((E : Int) - q).toNat := by
    refine FP.Core.nearest_le (FP.Core.unitsDen_pos hB e q) ?_
    unfold FP.Core.unitsNum FP.Core.unitsDen
    have hk : 0 < 2 ^ (q + 3000).toNat := Nat.two_pow_pos _
    by_cases hqe : q ≤ e
    · have e1 : (q - e).toNat = 0 := by omega
      rw [e1, Nat.pow_zero, Nat.mul_one]
      refine Nat.le_of_mul_le_mul_right ?_ hk
      have a1 : A * 2 ^ (e - q).toNat * 2 ^ (q + 3000).toNat = A * 2 ^ (e + 3000).toNat := by
        rw [Nat.mul_assoc, ← Nat.pow_add]
        congr 2; omega
      have a2 : 2 ^ ((E : Int) - q).toNat * B * 2 ^ (q + 3000).toNat = B * 2 ^ (E + 3000) := by
        rw [Nat.mul_comm (2 ^ _) B, Nat.mul_assoc, ← Nat.pow_add]
        congr 2; omega
      rw [a1, a2]
      exact h
    · have e1 : (e - q).toNat = 0 := by omega
      rw [e1, Nat.pow_zero, Nat.mul_one]
      have hk : 0 < 2 ^ (e + 3000).toNat := Nat.two_pow_pos _
      refine Nat.le_of_mul_le_mul_right ?_ hk
      have a2 : 2 ^ ((E : Int) - q).toNat * (B * 2 ^ (q - e).toNat) * 2 ^ (e + 3000).toNat = B * 2 ^ (E + 3000) := by
        rw [Nat.mul_comm (2 ^ _) (B * _), Nat.mul_assoc, Nat.mul_assoc, ← Nat.pow_add, ← Nat.pow_add]
        congr 2; omega
      rw [a2]
      exact h
  generalize hgen : FP.Core.nearest (FP.Core.unitsNum A e q) (FP.Core.unitsDen B e q) = c at *
  have hval : c * 2 ^ (q + 1074).toNat ≤ 2 ^ (E + 1074) := by
    refine Nat.le_trans (Nat.mul_le_mul_right _ hM) ?_
    rw [← Nat.pow_add]
    refine Nat.pow_le_pow_right (by omega) ?_
    omega
  have hset : ∃ c' q', FP.Core.settle FP.Core.b64 s c q = .fin s c' q' ∧ c' * 2 ^ (q' + 1074).toNat ≤ 2 ^ (E + 1074) := rr_set hc hval (by omega)
  unfold FP.Core.roundAt
  rw [hgen]
  exact hset
theorem fb_add {E : Nat} {x y : UInt64} (hE : E + 1 ≤ 900) (hx : fb E x) (hy : fb E y) : fb (E + 1) (FP.dadd x y) := by
  obtain ⟨s, c, q, h1, h2⟩ := hx
  obtain ⟨t, d, r, h3, h4⟩ := hy
  obtain ⟨-, q1, q2, -⟩ := fit64 h1
  obtain ⟨-, r1, r2, -⟩ := fit64 h3
  have hv := FP.Core.val64_dadd x y
  rw [h1, h3] at hv
  simp only [FP.Core.exactSum, FP.Core.round] at hv
  have hm : min q r ≤ q ∧ min q r ≤ r ∧ -1074 ≤ min q r := by omega
  generalize min q r = e at hv hm
  have hb : (FP.Core.sumUnits s c q t d r e).natAbs ≤ c * 2 ^ (q - e).toNat + d * 2 ^ (r - e).toNat := by
    unfold FP.Core.sumUnits FP.Core.signed FP.Core.inUnits
    split <;> split <;> omega
  have hsum : (c * 2 ^ (q - e).toNat + d * 2 ^ (r - e).toNat) * 2 ^ (e + 1074).toNat ≤ 2 ^ (E + 1 + 1074) := by
    rw [Nat.add_mul, Nat.mul_assoc, Nat.mul_assoc, ← Nat.pow_add, ← Nat.pow_add]
    have a1 : (q - e).toNat + (e + 1074).toNat = (q + 1074).toNat := by omega
    have a2 : (r - e).toNat + (e + 1074).toNat = (r + 1074).toNat := by omega
    rw [a1, a2, show E + 1 + 1074 = (E + 1074) + 1 by omega, Nat.pow_succ]
    omega
  obtain ⟨c', q', h5, h6⟩ := rr_bd (s := FP.Core.sumSign s t (FP.Core.sumUnits s c q t d r e)) (A := (FP.Core.sumUnits s c q t d r e).natAbs) (B := 1) (e := e) (E := E + 1) (by omega) hE (by omega) (by
    have h7 := Nat.le_trans (Nat.mul_le_mul_right (2 ^ (e + 1074).toNat) hb) hsum
    have h8 := Nat.mul_le_mul_right (2 ^ 1926) h7
    rw [Nat.mul_assoc, ← Nat.pow_add, ← Nat.pow_add] at h8
    rw [Nat.one_mul, show (e + 3000).toNat = (e + 1074).toNat + 1926 by omega]
    exact h8)
  exact ⟨_, c', q', hv.trans h5, h6⟩
theorem fb_neg {E : Nat} {x : UInt64} (hx : fb E x) : fb E (FP.dneg x) := by
  obtain ⟨s, c, q, h1, h2⟩ := hx
  refine ⟨!s, c, q, ?_, h2⟩
  rw [FP.val64_dneg, h1]
  rfl
theorem fb_sub {E : Nat} {x y : UInt64} (hE : E + 1 ≤ 900) (hx : fb E x) (hy : fb E y) : fb (E + 1) (FP.dsub x y) := by
  have hv := FP.Core.val64_dsub x y
  obtain ⟨t, d, r, h3, h4⟩ := hy
  have hy' : fb E (FP.Core.dneg y) := ⟨!t, d, r, by rw [FP.Core.val64_dneg, h3]; rfl, h4⟩
  have e1 : FP.dsub x y = FP.dadd x (FP.Core.dneg y) := FP.Core.dsub_eq x y
  rw [e1]
  exact fb_add hE hx hy'
theorem fb_mul {E F : Nat} {x y : UInt64} (hE : E + F ≤ 900) (hx : fb E x) (hy : fb F y) : fb (E + F) (FP.dmul x y) := by
  obtain ⟨s, c, q, h1, h2⟩ := hx
  obtain ⟨t, d, r, h3, h4⟩ := hy
  obtain ⟨-, q1, q2, -⟩ := fit64 h1
  obtain ⟨-, r1, r2, -⟩ := fit64 h3
  have hv := FP.Core.val64_dmul x y
  rw [h1, h3] at hv
  simp only [FP.Core.exactProduct, FP.Core.round] at hv
  obtain ⟨c', q', h5, h6⟩ := rr_bd (s := (s != t)) (A := c * d) (B := 1) (e := q + r) (E := E + F) (by omega) hE (by omega) (by
    have h7 := Nat.mul_le_mul h2 h4
    have h8 := Nat.mul_le_mul_right (2 ^ 852) h7
    have a1 : c * 2 ^ (q + 1074).toNat * (d * 2 ^ (r + 1074).toNat) * 2 ^ 852 = c * d * 2 ^ (q + r + 3000).toNat := by
      rw [show (q + r + 3000).toNat = (q + 1074).toNat + ((r + 1074).toNat + 852) by omega, Nat.pow_add, Nat.pow_add]
      exact mul4 _ _ _ _ _
    have a2 : 2 ^ (E + 1074) * 2 ^ (F + 1074) * 2 ^ 852 = 1 * 2 ^ (E + F + 3000) := by
      rw [Nat.one_mul, ← Nat.pow_add, ← Nat.pow_add, show E + 1074 + (F + 1074) + 852 = E + F + 3000 by omega]
    rw [a1, a2] at h8
    exact h8)
  exact ⟨_, c', q', hv.trans h5, h6⟩
theorem fb_div {E : Nat} {x y : UInt64} (hE : E ≤ 900) (hx : fb E x) (hy : ge1 y) : fb E (FP.ddiv x y) := by
  obtain ⟨s, c, q, h1, h2⟩ := hx
  obtain ⟨t, d, r, h3, h4⟩ := hy
  obtain ⟨-, q1, q2, -⟩ := fit64 h1
  obtain ⟨-, r1, r2, -⟩ := fit64 h3
  have hd : d ≠ 0 := by
    intro h
    subst h
    rw [Nat.zero_mul] at h4
    exact absurd h4 (Nat.not_le.mpr (Nat.two_pow_pos _))
  have hv := FP.Core.val64_ddiv x y
  rw [h1, h3] at hv
  simp only [FP.Core.quotient, if_neg hd] at hv
  obtain ⟨c', q', h5, h6⟩ := rr_bd (s := (s != t)) (A := c) (B := d) (e := q - r) (E := E) (by omega) hE (by omega) (by
    have hr : 0 < 2 ^ (r + 1074).toNat := Nat.two_pow_pos _
    refine Nat.le_of_mul_le_mul_right ?_ hr
    have a1 : c * 2 ^ (q - r + 3000).toNat * 2 ^ (r + 1074).toNat = c * 2 ^ (q + 1074).toNat * 2 ^ 3000 := by
      rw [Nat.mul_assoc, Nat.mul_assoc, ← Nat.pow_add, ← Nat.pow_add]
      congr 2; omega
    have a2 : d * 2 ^ (E + 3000) * 2 ^ (r + 1074).toNat = (d * 2 ^ (r + 1074).toNat) * 2 ^ (E + 3000) := mul3 _ _ _
    rw [a1, a2]
    refine Nat.le_trans (Nat.mul_le_mul_right _ h2) (Nat.le_trans (Nat.le_of_eq ?_) (Nat.mul_le_mul_right _ h4))
    rw [← Nat.pow_add, ← Nat.pow_add, show E + 1074 + 3000 = 1074 + (E + 3000) by omega])
  exact ⟨_, c', q', hv.trans h5, h6⟩
theorem fb_mono {E F : Nat} {x : UInt64} (h : E ≤ F) (hx : fb E x) : fb F x := by
  obtain ⟨s, c, q, h1, h2⟩ := hx
  exact ⟨s, c, q, h1, Nat.le_trans h2 (Nat.pow_le_pow_right (by omega) (by omega))⟩
theorem fb_i2d {E : Nat} (hE : E ≤ 900) {v : Int32} (h : v.toInt.natAbs ≤ 2 ^ E) : fb E (FP.i2d v) := by
  have hv := FP.Core.val64_i2d v
  simp only [FP.Core.ofInt, FP.Core.round] at hv
  obtain ⟨c', q', h5, h6⟩ := rr_bd (s := decide (v.toInt < 0)) (A := v.toInt.natAbs) (B := 1) (e := 0) (E := E) (by omega) hE (by omega) (by
    rw [Nat.one_mul, Nat.pow_add]
    exact Nat.mul_le_mul_right _ h)
  exact ⟨_, c', q', hv.trans h5, h6⟩
/-- constants, by their bits -/
def dmagOk (E : Nat) (x : UInt64) : Bool := match FP.Core.val64 x with
  | .fin _ c q => decide (c * 2 ^ (q + 1074).toNat ≤ 2 ^ (E + 1074))
  | _ => false
def ge1Ok (x : UInt64) : Bool := match FP.Core.val64 x with
  | .fin _ c q => decide (2 ^ 1074 ≤ c * 2 ^ (q + 1074).toNat)
  | _ => false
theorem fb_c {E : Nat} {x : UInt64} (h : dmagOk E x = true) : fb E x := by
  unfold dmagOk at h
  split at h
  next s c q hq => exact ⟨s, c, q, hq, of_decide_eq_true h⟩
  next => cases h
theorem ge1_c {x : UInt64} (h : ge1Ok x = true) : ge1 x := by
  unfold ge1Ok at h
  split at h
  next s c q hq => exact ⟨s, c, q, hq, of_decide_eq_true h⟩
  next => cases h
theorem ge1_100 : ge1 4636737291354636288 := ge1_c (by decide +kernel)
theorem ge1_1000 : ge1 4652007308841189376 := ge1_c (by decide +kernel)
theorem ge1_16384 : ge1 4670232813583204352 := ge1_c (by decide +kernel)
