/-! STREAMS: the nearest high water, the hour from it -/
theorem bm32 {x : Int} (h1 : -2147483648 ≤ x) (h2 : x < 2147483648) : x.bmod (2 ^ 32) = x := Int.bmod_eq_of_le (by omega) (by omega)
theorem i32_msb (x : Int32) : x < 0 ↔ x.toBitVec.msb = true := BitVec.slt_zero_iff_msb_cond
theorem xor_neg (x : Int32) : x ^^^ 3600 < 0 ↔ x < 0 := by
  rw [i32_msb, i32_msb, Int32.toBitVec_xor, BitVec.msb_xor, show ((3600 : Int32)).toBitVec.msb = false by decide, Bool.xor_false]
def fdv (x : Int32) : Int32 := if x ^^^ 3600 < 0 ∧ ¬ x / 3600 * 3600 = x then x / 3600 - 1 else x / 3600
def hrF (x : Int32) : Int32 := if x < 0 then -((3599 - x) / 3600) else x / 3600
theorem fd_hr {x : Int32} (h1 : -1073741824 ≤ x.toInt) (h2 : x.toInt ≤ 1073741824) : fdv x = hrF x := by
  have h0 : ((0 : Int32)).toInt = 0 := by decide
  have h36 : ((3600 : Int32)).toInt = 3600 := by decide
  have h35 : ((3599 : Int32)).toInt = 3599 := by decide
  have h11 : ((1 : Int32)).toInt = 1 := by decide
  unfold fdv hrF
  simp only [xor_neg]
  by_cases c : x < 0
  · rw [if_pos c]
    rw [i32_lt, h0] at c
    obtain ⟨b, hb⟩ : ∃ b : Int, b = -x.toInt := ⟨_, rfl⟩
    have eq : (x / 3600).toInt = -(b / 3600) := by
      rw [Int32.toInt_div_of_ne_right _ _ (by decide), h36, show x.toInt = -b by omega, Int.neg_tdiv, Int.tdiv_eq_ediv_of_nonneg (by omega)]
    have em : (x / 3600 * 3600).toInt = -(b / 3600) * 3600 := by
      rw [Int32.toInt_mul, eq, h36]
      exact bm32 (by omega) (by omega)
    have es : (3599 - x).toInt = 3599 + b := by
      rw [Int32.toInt_sub, h35]
      rw [bm32 (by omega) (by omega)]
      omega
    have er : (-((3599 - x) / 3600)).toInt = -((3599 + b) / 3600) := by
      rw [Int32.toInt_neg, Int32.toInt_div_of_ne_right _ _ (by decide), h36, es, Int.tdiv_eq_ediv_of_nonneg (by omega)]
      exact bm32 (by omega) (by omega)
    rw [← Int32.toInt_inj, er]
    by_cases c2 : x / 3600 * 3600 = x
    · rw [if_neg (fun z => z.2 c2), eq]
      rw [← Int32.toInt_inj, em] at c2
      omega
    · rw [if_pos ⟨by rw [i32_lt, h0]; exact c, c2⟩, Int32.toInt_sub, eq, h11, bm32 (by omega) (by omega)]
      rw [← Int32.toInt_inj, em] at c2
      omega
  · rw [if_neg c, if_neg (fun z => c z.1)]
def faI (t m : Int32) : Int32 := if 0 ≤ t - m then t - m else -(t - m)
theorem fa_lt {a b : Nat} (ha : a < 2592000) (hb : b < 2592000) : faI (nI a) (nI b) < 2592000 ∧ 0 ≤ (faI (nI a) (nI b)).toInt := by
  have e : (nI a - nI b).toInt = (a : Int) - b := pk_sub_toInt (by omega) (by omega)
  have h0 : ((0 : Int32)).toInt = 0 := by decide
  have h1 : ((2592000 : Int32)).toInt = 2592000 := by decide
  unfold faI
  split
  next c =>
    rw [i32_le, e, h0] at c
    rw [i32_lt, e, h1]
    omega
  next c =>
    rw [i32_le, e, h0] at c
    have e2 : (-(nI a - nI b)).toInt = (b : Int) - a := by
      rw [Int32.toInt_neg, e, bm32 (by omega) (by omega)]
      omega
    rw [i32_lt, e2, h1]
    omega
def nhF (mo hi : Nat → Int32) (t : Int32) : Nat → Int32
  | 0 => -1
  | i + 1 => if ¬ hi i = 0 ∧ (nhF mo hi t i = -1 ∨ faI t (mo i) < faI t (mo (nhF mo hi t i).toNatClampNeg)) then nI i else nhF mo hi t i
theorem nhF_in (mo hi : Nat → Int32) (t : Int32) : ∀ n, nhF mo hi t n = -1 ∨ ∃ j, j < n ∧ nhF mo hi t n = nI j
  | 0 => Or.inl rfl
  | n + 1 => by
    unfold nhF
    split
    · exact Or.inr ⟨n, by omega, rfl⟩
    · rcases nhF_in mo hi t n with h | ⟨j, h1, h2⟩
      · exact Or.inl h
      · exact Or.inr ⟨j, by omega, h2⟩
/-- where the STREAM stands: LACK and INDEX below 0 -/
def spl (mo hi : Nat → Int32) (s : Nat) (t : Int32) (c : Nat) : Int32 := if nhF mo hi t c = -1 then -7 else if hrF (t - mo (nhF mo hi t c).toNatClampNeg + 1800) < -6 ∨ 6 < hrF (t - mo (nhF mo hi t c).toNatClampNeg + 1800) then -2 else nI (13 * s) + hrF (t - mo (nhF mo hi t c).toNatClampNeg + 1800) + 6
theorem hr_n {h : Int32} (h1 : ¬ h < -6) (h2 : ¬ 6 < h) : ∃ j, j < 13 ∧ h + 6 = nI j := by
  have e6 : ((6 : Int32)).toInt = 6 := by decide
  have em : ((-6 : Int32)).toInt = -6 := by decide
  rw [i32_lt, em] at h1
  rw [i32_lt, e6] at h2
  have e : (h + 6).toInt = h.toInt + 6 := by rw [Int32.toInt_add, e6, bm32 (by omega) (by omega)]
  obtain ⟨j, hj, he⟩ := nI_of (x := h + 6) (by rw [i32_lt, e, show ((0 : Int32)).toInt = 0 by decide]; omega)
  refine ⟨j, ?_, he⟩
  have := congrArg Int32.toInt he
  rw [e, nI_toInt hj] at this
  omega
theorem spl_c {mo hi : Nat → Int32} {s : Nat} {t : Int32} {c : Nat} (hs : s < 12) : spl mo hi s t c = -7 ∨ spl mo hi s t c = -2 ∨ ∃ j, j < 156 ∧ spl mo hi s t c = nI j := by
  unfold spl
  split
  · exact Or.inl rfl
  · split
    · exact Or.inr (Or.inl rfl)
    next h =>
      obtain ⟨j, hj, he⟩ := hr_n (fun z => h (Or.inl z)) (fun z => h (Or.inr z))
      refine Or.inr (Or.inr ⟨13 * s + j, by omega, ?_⟩)
      rw [Int32.add_assoc, he, nI_add]
section S56
variable (g : Gp) (d : Nat) (I : MI) (D : MD)
theorem c_X_abs (x : Int32) : Con g SHc d 70 [.int x] I D (EqP (some (.int (if 0 ≤ x then x else -x))) I D) := by
  refine Con.mk (LV := v_Math_abs) k_Math_abs (Nat.le_of_ble_eq_true rfl) (fun K hK => ?_)
  refine hK (0, 11, o_Math_abs_0) (List.mem_of_getElem? (i := 0) rfl) _ _ _ _ ?_
  refine And.intro (fun c => ?_) (fun c => ?_)
  · exact And.intro (by rw [if_pos c]) (And.intro rfl rfl)
  · exact And.intro (by rw [if_neg c]) (And.intro rfl rfl)
theorem c_X_max (x y : Int32) : Con g SHc d 75 [.int x, .int y] I D (EqP (some (.int (if x < y then y else x))) I D) := by
  refine Con.mk (LV := v_Math_max) k_Math_max (Nat.le_of_ble_eq_true rfl) (fun K hK => ?_)
  refine hK (0, 11, o_Math_max_0) (List.mem_of_getElem? (i := 0) rfl) _ _ _ _ ?_
  refine And.intro (fun c => ?_) (fun c => ?_)
  · exact And.intro (by rw [if_pos c]) (And.intro rfl rfl)
  · exact And.intro (by rw [if_neg c]) (And.intro rfl rfl)
theorem c_X_min (x y : Int32) : Con g SHc d 83 [.int x, .int y] I D (EqP (some (.int (if y < x then y else x))) I D) := by
  refine Con.mk (LV := v_Math_min) k_Math_min (Nat.le_of_ble_eq_true rfl) (fun K hK => ?_)
  refine hK (0, 11, o_Math_min_0) (List.mem_of_getElem? (i := 0) rfl) _ _ _ _ ?_
  refine And.intro (fun c => ?_) (fun c => ?_)
  · exact And.intro (by rw [if_pos c]) (And.intro rfl rfl)
  · exact And.intro (by rw [if_neg c]) (And.intro rfl rfl)
theorem c_X_floorDiv (x : Int32) : Con g SHc d 71 [.int x, .int 3600] I D (EqP (some (.int (fdv x))) I D) := by
  refine Con.mk (LV := v_Math_floorDiv) k_Math_floorDiv (Nat.le_of_ble_eq_true rfl) (fun K hK => ?_)
  refine hK (0, 23, o_Math_floorDiv_0) (List.mem_of_getElem? (i := 0) rfl) _ _ _ _ ?_
  refine And.intro (by decide) ?_
  refine And.intro (fun c => ?_) (fun c => ?_)
  · exact And.intro (by unfold fdv; rw [if_neg (fun z => absurd z.1 (i32_nlt.mpr c))]) (And.intro rfl rfl)
  refine And.intro (fun c2 => ?_) (fun c2 => ?_)
  · exact And.intro (by unfold fdv; rw [if_neg (fun z => z.2 c2)]) (And.intro rfl rfl)
  · exact And.intro (by unfold fdv; rw [if_pos ⟨i32_nle.mp c, c2⟩]) (And.intro rfl rfl)
abbrev mwX (I : MI) (s i : Nat) : Int32 := I 37 (40 * s + i)
abbrev hwX (I : MI) (s i : Nat) : Int32 := I 38 (40 * s + i)
abbrev mwM (I : MI) (s i : Nat) : Int32 := I 98 (40 * s + i)
abbrev hwM (I : MI) (s i : Nat) : Int32 := I 99 (40 * s + i)
/-- the class's two numbers of the nearest -/
def nbX (s : Nat) (b : Int32) : Int32 := if b = -1 then -1 else nI (40 * s + b.toNatClampNeg)
def nlX (mo : Nat → Int32) (t b : Int32) : Int32 := if b = -1 then 2592000 else faI t (mo b.toNatClampNeg)
def nlM (mo : Nat → Int32) (t b : Int32) : Int32 := if b = -1 then 0 else faI t (mo b.toNatClampNeg)
set_option maxHeartbeats 1000000 in
theorem c_X_nearest (s c tt : Nat) (hs : s < 12) (hc : c ≤ 40) (hce : I 36 s = nI c) (hm : ∀ j, j < c → ∃ a, a < 2592000 ∧ I 37 (40 * s + j) = nI a) (htt : tt < 2592000) : Con g SHc (d + 1) 69 [.ref 5, .int (nI s), .int (nI tt)] I D (EqP (some (.int (nbX s (nhF (mwX I s) (hwX I s) (nI tt) c)))) I D) := by
  refine Con.mk (LV := v_Waters_nearestHigh) k_Waters_nearestHigh (Nat.le_of_ble_eq_true rfl) (fun K hK => ?_)
  have hsc : (nI s).toNatClampNeg = s := nI_clamp (by omega)
  have hs12 : inn (nI s) 12 := inn_nI hs (by decide)
  have e40 : nI s * 40 = nI (40 * s) := by rw [show (40 : Int32) = nI 40 from rfl, pk_mul, Nat.mul_comm]
  have loop : ∀ r i, i + r = c → K 12 [(0, .ref 5), (1, .int (nI s)), (2, .int (nI tt)), (3, .int (nbX s (nhF (mwX I s) (hwX I s) (nI tt) i))), (4, .int (nlX (mwX I s) (nI tt) (nhF (mwX I s) (hwX I s) (nI tt) i))), (5, .int (nI (40 * s + i)))] [] I D := by
    intro r
    induction r with
    | zero =>
      intro i hi
      have hi : i = c := by omega
      subst hi
      refine hK (12, 74, o_Waters_nearestHigh_1) (List.mem_of_getElem? (i := 1) rfl) _ _ _ _ ?_
      refine And.intro (hs12) ?_
      refine And.intro (fun c1 => ?_) (fun c1 => ?_)
      · exact And.intro rfl (And.intro rfl rfl)
      · rw [hsc, hce, e40, nI_add] at c1
        exact absurd (nI_le (Nat.le_refl _) (by omega)) c1
    | succ r ih =>
      intro i hi
      have go := ih (i + 1) (by omega)
      have nxt : nhF (mwX I s) (hwX I s) (nI tt) (i + 1) = if ¬ I 38 (40 * s + i) = 0 ∧ (nhF (mwX I s) (hwX I s) (nI tt) i = -1 ∨ faI (nI tt) (I 37 (40 * s + i)) < faI (nI tt) (mwX I s (nhF (mwX I s) (hwX I s) (nI tt) i).toNatClampNeg)) then nI i else nhF (mwX I s) (hwX I s) (nI tt) i := rfl
      rw [nxt, show 40 * s + (i + 1) = 40 * s + i + 1 from rfl, nI_succ] at go
      have hn := nhF_in (mwX I s) (hwX I s) (nI tt) i
      generalize nhF (mwX I s) (hwX I s) (nI tt) i = B at go hn ⊢
      have hcl : (nI (40 * s + i)).toNatClampNeg = 40 * s + i := nI_clamp (by omega)
      have hin : inn (nI (40 * s + i)) 480 := inn_nI (by omega) (by decide)
      obtain ⟨a, ha, hae⟩ := hm i (by omega)
      have hfa := (fa_lt htt ha).1
      rw [← hae] at hfa
      refine hK (12, 74, o_Waters_nearestHigh_1) (List.mem_of_getElem? (i := 1) rfl) _ _ _ _ ?_
      refine And.intro (hs12) ?_
      refine And.intro (fun c1 => ?_) (fun c1 => ?_)
      · rw [hsc, hce, e40, nI_add] at c1
        exact absurd c1 (nI_ge (by omega) (by omega))
      refine And.intro (hin) ?_
      rw [hcl]
      refine call_eq (c_X_abs g d I D _) ?_
      refine And.intro (hin) ?_
      rw [hcl]
      refine And.intro (fun c2 => ?_) (fun c2 => ?_)
      · rw [if_neg (fun z => z.1 c2)] at go
        exact go
      refine And.intro (fun c3 => ?_) (fun c3 => ?_)
      · have c3 : nlX (mwX I s) (nI tt) B ≤ faI (nI tt) (I 37 (40 * s + i)) := c3
        rw [if_neg (fun z => by
          by_cases hB : B = -1
          · rw [nlX, if_pos hB] at c3
            exact absurd c3 (i32_nle.mpr hfa)
          · rw [nlX, if_neg hB] at c3
            exact z.2.elim hB (fun w => absurd c3 (i32_nle.mpr w)))] at go
        exact go
      · have c3 : ¬ nlX (mwX I s) (nI tt) B ≤ faI (nI tt) (I 37 (40 * s + i)) := c3
        rw [if_pos ⟨c2, by
          by_cases hB : B = -1
          · exact Or.inl hB
          · rw [nlX, if_neg hB] at c3
            exact Or.inr (i32_nle.mp c3)⟩, nbX, nlX, if_neg (nI_neg1 (by omega)), if_neg (nI_neg1 (by omega)), nI_clamp (show i < 2 ^ 31 by omega)] at go
        exact go
  refine hK (0, 12, o_Waters_nearestHigh_0) (List.mem_of_getElem? (i := 0) rfl) _ _ _ _ ?_
  have go := loop c 0 (by omega)
  rw [Nat.add_zero, ← e40] at go
  exact go
theorem c_X_streamPlace (s c tt : Nat) (hs : s < 12) (hc : c ≤ 40) (hce : I 36 s = nI c) (hm : ∀ j, j < c → ∃ a, a < 2592000 ∧ I 37 (40 * s + j) = nI a) (htt : tt < 2592000) : Con g SHc (d + 2) 68 [.ref 5, .int (nI s), .int (nI tt)] I D (EqP (some (.int (spl (mwX I s) (hwX I s) s (nI tt) c))) I D) := by
  refine Con.mk (LV := v_Waters_streamPlace) k_Waters_streamPlace (Nat.le_of_ble_eq_true rfl) (fun K hK => ?_)
  refine hK (0, 63, o_Waters_streamPlace_0) (List.mem_of_getElem? (i := 0) rfl) _ _ _ _ ?_
  refine call_eq (c_X_nearest g d I D s c tt hs hc hce hm htt) ?_
  unfold spl
  rcases nhF_in (mwX I s) (hwX I s) (nI tt) c with h | ⟨j, hj, h⟩
  · rw [h]
    refine And.intro (fun z => absurd rfl z) (fun _ => ?_)
    exact And.intro rfl (And.intro rfl rfl)
  · rw [h, if_neg (nI_neg1 (by omega)), nI_clamp (show j < 2 ^ 31 by omega), show nbX s (nI j) = nI (40 * s + j) by rw [nbX, if_neg (nI_neg1 (by omega)), nI_clamp (by omega)]]
    have hcl : (nI (40 * s + j)).toNatClampNeg = 40 * s + j := nI_clamp (by omega)
    obtain ⟨a, ha, hae⟩ := hm j hj
    have e1 : fdv (nI tt - I 37 (40 * s + j) + 1800) = hrF (nI tt - mwX I s j + 1800) := by
      refine fd_hr ?_ ?_
      all_goals
        have e : (nI tt - nI a).toInt = (tt : Int) - a := pk_sub_toInt (by omega) (by omega)
        rw [hae, Int32.toInt_add, e, show ((1800 : Int32)).toInt = 1800 by decide, bm32 (by omega) (by omega)]
        omega
    refine And.intro (fun c1 => ?_) (fun c1 => ?_)
    · refine And.intro (inn_nI (by omega) (by decide)) ?_
      rw [hcl]
      refine call_eq (c_X_floorDiv g (d + 1) I D _) ?_
      rw [e1]
      refine And.intro (fun c2 => ?_) (fun c2 => ?_)
      · exact And.intro (by rw [if_pos (Or.inl c2)]) (And.intro rfl rfl)
      refine And.intro (fun c3 => ?_) (fun c3 => ?_)
      · have e13 : nI s * 13 = nI (13 * s) := by rw [show (13 : Int32) = nI 13 from rfl, pk_mul, Nat.mul_comm]
        exact And.intro (by rw [if_neg (fun z => z.elim c2 (fun w => absurd c3 (i32_nle.mpr w))), ← e13]) (And.intro rfl rfl)
      · exact And.intro (by rw [if_pos (Or.inr (i32_nle.mp c3))]) (And.intro rfl rfl)
    · exact absurd c1 (nI_neg1 (by omega))
end S56
