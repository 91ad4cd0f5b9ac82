/-! COS: the same reals on both sides -/
abbrev cx (k : Int32) : UInt64 := FP.ddiv (FP.i2d k) 4670232813583204352
abbrev cy (k : Int32) : UInt64 := FP.dmul (cx k) (cx k)
abbrev cc1 (k : Int32) : UInt64 := FP.dmul (cy k) 4561617902785116854
abbrev cc2 (k : Int32) : UInt64 := FP.dsub 4581670710316679173 (cc1 k)
abbrev cc3 (k : Int32) : UInt64 := FP.dmul (cy k) (cc2 k)
abbrev cc4 (k : Int32) : UInt64 := FP.dsub 4598241323522939587 (cc3 k)
abbrev cc5 (k : Int32) : UInt64 := FP.dmul (cy k) (cc4 k)
abbrev cc6 (k : Int32) : UInt64 := FP.dsub 4608234912510526942 (cc5 k)
abbrev cc7 (k : Int32) : UInt64 := FP.dmul (cy k) (cc6 k)
abbrev cosC (k : Int32) : UInt64 := FP.dsub 4607182418800017408 (cc7 k)
def cosN (n : Int32) : UInt64 :=
  if 16384 < (if 32768 < n then 65536 - n else n) then FP.dneg (cosC (32768 - (if 32768 < n then 65536 - n else n))) else cosC (if 32768 < n then 65536 - n else n)
theorem i32_abs (k : Int32) : k.toInt.natAbs ≤ 2 ^ 31 := by
  have h1 := Int32.le_toInt k
  have h2 := Int32.toInt_lt k
  omega
theorem cosK (k : Int32) : fb 31 (cx k) ∧ fb 62 (cy k) ∧ fb 62 (cc1 k) ∧ fb 63 (cc2 k) ∧ fb 125 (cc3 k) ∧ fb 126 (cc4 k) ∧ fb 188 (cc5 k) ∧ fb 189 (cc6 k) ∧ fb 251 (cc7 k) ∧ fb 252 (cosC k) := by
  have h0 : fb 31 (cx k) := fb_div (by omega) (fb_i2d (by omega) (i32_abs k)) ge1_16384
  have h1 : fb 62 (cy k) := fb_mul (E := 31) (F := 31) (by omega) h0 h0
  have h2 : fb 62 (cc1 k) := fb_mul (E := 62) (F := 0) (by omega) h1 (fb_c (by decide +kernel))
  have h3 : fb 63 (cc2 k) := fb_sub (E := 62) (by omega) (fb_mono (E := 0) (by omega) (fb_c (by decide +kernel))) h2
  have h4 : fb 125 (cc3 k) := fb_mul (E := 62) (F := 63) (by omega) h1 h3
  have h5 : fb 126 (cc4 k) := fb_sub (E := 125) (by omega) (fb_mono (E := 0) (by omega) (fb_c (by decide +kernel))) h4
  have h6 : fb 188 (cc5 k) := fb_mul (E := 62) (F := 126) (by omega) h1 h5
  have h7 : fb 189 (cc6 k) := fb_sub (E := 188) (by omega) (fb_mono (E := 1) (by omega) (fb_c (by decide +kernel))) h6
  have h8 : fb 251 (cc7 k) := fb_mul (E := 62) (F := 189) (by omega) h1 h7
  have h9 : fb 252 (cosC k) := fb_sub (E := 251) (by omega) (fb_mono (E := 0) (by omega) (fb_c (by decide +kernel))) h8
  exact ⟨h0, h1, h2, h3, h4, h5, h6, h7, h8, h9⟩
theorem cosN_a {n : Int32} (h1 : n ≤ 32768) (h2 : n ≤ 16384) : cosN n = cosC n := by
  unfold cosN
  rw [if_neg (i32_nlt.mpr h1), if_neg (i32_nlt.mpr h2)]
theorem cosN_b {n : Int32} (h1 : n ≤ 32768) (h2 : ¬ n ≤ 16384) : cosN n = FP.dneg (cosC (32768 - n)) := by
  unfold cosN
  rw [if_neg (i32_nlt.mpr h1), if_pos (i32_nle.mp h2)]
theorem cosN_c {n : Int32} (h1 : ¬ n ≤ 32768) (h2 : 65536 - n ≤ 16384) : cosN n = cosC (65536 - n) := by
  unfold cosN
  rw [if_pos (i32_nle.mp h1), if_neg (i32_nlt.mpr h2)]
theorem cosN_d {n : Int32} (h1 : ¬ n ≤ 32768) (h2 : ¬ 65536 - n ≤ 16384) : cosN n = FP.dneg (cosC (32768 - (65536 - n))) := by
  unfold cosN
  rw [if_pos (i32_nle.mp h1), if_pos (i32_nle.mp h2)]
theorem cosN_fb (n : Int32) : fb 252 (cosN n) := by
  by_cases h1 : n ≤ 32768
  · by_cases h2 : n ≤ 16384
    · rw [cosN_a h1 h2]
      exact (cosK n).2.2.2.2.2.2.2.2.2
    · rw [cosN_b h1 h2]
      exact fb_neg (cosK (32768 - n)).2.2.2.2.2.2.2.2.2
  · by_cases h2 : 65536 - n ≤ 16384
    · rw [cosN_c h1 h2]
      exact (cosK (65536 - n)).2.2.2.2.2.2.2.2.2
    · rw [cosN_d h1 h2]
      exact fb_neg (cosK (32768 - (65536 - n))).2.2.2.2.2.2.2.2.2
section S21
variable (g : Gp) (d : Nat) (I : MI) (D : MD)
theorem c_X_cosine (a : Int64) : Con g SHc d 12 [.long a] I D (EqP (some (.double (cosN (a &&& 65535).toInt32))) I D) := by
  refine Con.mk (LV := v_Surveys_cosine) k_Surveys_cosine (Nat.le_of_ble_eq_true rfl) (fun K hK => ?_)
  refine hK (0, 102, o_Surveys_cosine_0) (List.mem_of_getElem? (i := 0) rfl) _ _ _ _ ?_
  refine And.intro (fun c1 => ?_) (fun c1 => ?_)
  · refine And.intro (fun c2 => ?_) (fun c2 => ?_)
    · refine And.intro (fb_n (cosK _).1) ?_
      refine And.intro (fb_n (cosK _).2.1) ?_
      refine And.intro (fb_n (cosK _).2.2.1) ?_
      refine And.intro (fb_n (cosK _).2.2.2.1) ?_
      refine And.intro (fb_n (cosK _).2.2.2.2.1) ?_
      refine And.intro (fb_n (cosK _).2.2.2.2.2.1) ?_
      refine And.intro (fb_n (cosK _).2.2.2.2.2.2.1) ?_
      refine And.intro (fb_n (cosK _).2.2.2.2.2.2.2.1) ?_
      refine And.intro (fb_n (cosK _).2.2.2.2.2.2.2.2.1) ?_
      refine And.intro (fb_n (cosK _).2.2.2.2.2.2.2.2.2) ?_
      refine And.intro (fun c3 => ?_) (fun c3 => ?_)
      · exact And.intro (by rw [cosN_a c1 c2]) (And.intro rfl rfl)
      · exact absurd c2 c3
    · refine And.intro (fb_n (cosK _).1) ?_
      refine And.intro (fb_n (cosK _).2.1) ?_
      refine And.intro (fb_n (cosK _).2.2.1) ?_
      refine And.intro (fb_n (cosK _).2.2.2.1) ?_
      refine And.intro (fb_n (cosK _).2.2.2.2.1) ?_
      refine And.intro (fb_n (cosK _).2.2.2.2.2.1) ?_
      refine And.intro (fb_n (cosK _).2.2.2.2.2.2.1) ?_
      refine And.intro (fb_n (cosK _).2.2.2.2.2.2.2.1) ?_
      refine And.intro (fb_n (cosK _).2.2.2.2.2.2.2.2.1) ?_
      refine And.intro (fb_n (cosK _).2.2.2.2.2.2.2.2.2) ?_
      refine And.intro (fun c3 => ?_) (fun c3 => ?_)
      · exact absurd c3 c2
      · exact And.intro (by rw [cosN_b c1 c2]) (And.intro rfl rfl)
  · refine And.intro (fun c2 => ?_) (fun c2 => ?_)
    · refine And.intro (fb_n (cosK _).1) ?_
      refine And.intro (fb_n (cosK _).2.1) ?_
      refine And.intro (fb_n (cosK _).2.2.1) ?_
      refine And.intro (fb_n (cosK _).2.2.2.1) ?_
      refine And.intro (fb_n (cosK _).2.2.2.2.1) ?_
      refine And.intro (fb_n (cosK _).2.2.2.2.2.1) ?_
      refine And.intro (fb_n (cosK _).2.2.2.2.2.2.1) ?_
      refine And.intro (fb_n (cosK _).2.2.2.2.2.2.2.1) ?_
      refine And.intro (fb_n (cosK _).2.2.2.2.2.2.2.2.1) ?_
      refine And.intro (fb_n (cosK _).2.2.2.2.2.2.2.2.2) ?_
      refine And.intro (fun c3 => ?_) (fun c3 => ?_)
      · exact And.intro (by rw [cosN_c c1 c2]) (And.intro rfl rfl)
      · exact absurd c2 c3
    · refine And.intro (fb_n (cosK _).1) ?_
      refine And.intro (fb_n (cosK _).2.1) ?_
      refine And.intro (fb_n (cosK _).2.2.1) ?_
      refine And.intro (fb_n (cosK _).2.2.2.1) ?_
      refine And.intro (fb_n (cosK _).2.2.2.2.1) ?_
      refine And.intro (fb_n (cosK _).2.2.2.2.2.1) ?_
      refine And.intro (fb_n (cosK _).2.2.2.2.2.2.1) ?_
      refine And.intro (fb_n (cosK _).2.2.2.2.2.2.2.1) ?_
      refine And.intro (fb_n (cosK _).2.2.2.2.2.2.2.2.1) ?_
      refine And.intro (fb_n (cosK _).2.2.2.2.2.2.2.2.2) ?_
      refine And.intro (fun c3 => ?_) (fun c3 => ?_)
      · exact absurd c3 c2
      · exact And.intro (by rw [cosN_d c1 c2]) (And.intro rfl rfl)
/-- a modulo 65536, not below 0 -/
def modN (a : Int32) : Int32 := if 0 ≤ a - a / 65536 * 65536 then a - a / 65536 * 65536 else a - a / 65536 * 65536 + 65536
theorem modN_p {a : Int32} (h : 0 ≤ a - a / 65536 * 65536) : modN a = a - a / 65536 * 65536 := if_pos h
theorem modN_n {a : Int32} (h : ¬ 0 ≤ a - a / 65536 * 65536) : modN a = a - a / 65536 * 65536 + 65536 := if_neg h
theorem c_M_cosine (a : Int32) : Con g SHc d 156 [.int a] I D (EqP (some (.double (cosN (modN a)))) I D) := by
  refine Con.mk (LV := v_M_cosine) k_M_cosine (Nat.le_of_ble_eq_true rfl) (fun K hK => ?_)
  refine hK (0, 111, o_M_cosine_0) (List.mem_of_getElem? (i := 0) rfl) _ _ _ _ ?_
  refine And.intro (by decide) ?_
  refine And.intro (fun c0 => ?_) (fun c0 => ?_)
  · refine And.intro (fun c1 => ?_) (fun c1 => ?_)
    · refine And.intro (fun c2 => ?_) (fun c2 => ?_)
      · refine And.intro (fb_n (cosK _).1) ?_
        refine And.intro (fb_n (cosK _).2.1) ?_
        refine And.intro (fb_n (cosK _).2.2.1) ?_
        refine And.intro (fb_n (cosK _).2.2.2.1) ?_
        refine And.intro (fb_n (cosK _).2.2.2.2.1) ?_
        refine And.intro (fb_n (cosK _).2.2.2.2.2.1) ?_
        refine And.intro (fb_n (cosK _).2.2.2.2.2.2.1) ?_
        refine And.intro (fb_n (cosK _).2.2.2.2.2.2.2.1) ?_
        refine And.intro (fb_n (cosK _).2.2.2.2.2.2.2.2.1) ?_
        refine And.intro (fb_n (cosK _).2.2.2.2.2.2.2.2.2) ?_
        refine And.intro (fun c3 => ?_) (fun c3 => ?_)
        · exact And.intro (by rw [modN_p c0, cosN_a c1 c2]) (And.intro rfl rfl)
        · exact absurd c2 c3
      · refine And.intro (fb_n (cosK _).1) ?_
        refine And.intro (fb_n (cosK _).2.1) ?_
        refine And.intro (fb_n (cosK _).2.2.1) ?_
        refine And.intro (fb_n (cosK _).2.2.2.1) ?_
        refine And.intro (fb_n (cosK _).2.2.2.2.1) ?_
        refine And.intro (fb_n (cosK _).2.2.2.2.2.1) ?_
        refine And.intro (fb_n (cosK _).2.2.2.2.2.2.1) ?_
        refine And.intro (fb_n (cosK _).2.2.2.2.2.2.2.1) ?_
        refine And.intro (fb_n (cosK _).2.2.2.2.2.2.2.2.1) ?_
        refine And.intro (fb_n (cosK _).2.2.2.2.2.2.2.2.2) ?_
        refine And.intro (fun c3 => ?_) (fun c3 => ?_)
        · exact absurd c3 c2
        · exact And.intro (by rw [modN_p c0, cosN_b c1 c2]) (And.intro rfl rfl)
    · refine And.intro (fun c2 => ?_) (fun c2 => ?_)
      · refine And.intro (fb_n (cosK _).1) ?_
        refine And.intro (fb_n (cosK _).2.1) ?_
        refine And.intro (fb_n (cosK _).2.2.1) ?_
        refine And.intro (fb_n (cosK _).2.2.2.1) ?_
        refine And.intro (fb_n (cosK _).2.2.2.2.1) ?_
        refine And.intro (fb_n (cosK _).2.2.2.2.2.1) ?_
        refine And.intro (fb_n (cosK _).2.2.2.2.2.2.1) ?_
        refine And.intro (fb_n (cosK _).2.2.2.2.2.2.2.1) ?_
        refine And.intro (fb_n (cosK _).2.2.2.2.2.2.2.2.1) ?_
        refine And.intro (fb_n (cosK _).2.2.2.2.2.2.2.2.2) ?_
        refine And.intro (fun c3 => ?_) (fun c3 => ?_)
        · exact And.intro (by rw [modN_p c0, cosN_c c1 c2]) (And.intro rfl rfl)
        · exact absurd c2 c3
      · refine And.intro (fb_n (cosK _).1) ?_
        refine And.intro (fb_n (cosK _).2.1) ?_
        refine And.intro (fb_n (cosK _).2.2.1) ?_
        refine And.intro (fb_n (cosK _).2.2.2.1) ?_
        refine And.intro (fb_n (cosK _).2.2.2.2.1) ?_
        refine And.intro (fb_n (cosK _).2.2.2.2.2.1) ?_
        refine And.intro (fb_n (cosK _).2.2.2.2.2.2.1) ?_
        refine And.intro (fb_n (cosK _).2.2.2.2.2.2.2.1) ?_
        refine And.intro (fb_n (cosK _).2.2.2.2.2.2.2.2.1) ?_
        refine And.intro (fb_n (cosK _).2.2.2.2.2.2.2.2.2) ?_
        refine And.intro (fun c3 => ?_) (fun c3 => ?_)
        · exact absurd c3 c2
        · exact And.intro (by rw [modN_p c0, cosN_d c1 c2]) (And.intro rfl rfl)
  · refine And.intro (fun c1 => ?_) (fun c1 => ?_)
    · refine And.intro (fun c2 => ?_) (fun c2 => ?_)
      · refine And.intro (fb_n (cosK _).1) ?_
        refine And.intro (fb_n (cosK _).2.1) ?_
        refine And.intro (fb_n (cosK _).2.2.1) ?_
        refine And.intro (fb_n (cosK _).2.2.2.1) ?_
        refine And.intro (fb_n (cosK _).2.2.2.2.1) ?_
        refine And.intro (fb_n (cosK _).2.2.2.2.2.1) ?_
        refine And.intro (fb_n (cosK _).2.2.2.2.2.2.1) ?_
        refine And.intro (fb_n (cosK _).2.2.2.2.2.2.2.1) ?_
        refine And.intro (fb_n (cosK _).2.2.2.2.2.2.2.2.1) ?_
        refine And.intro (fb_n (cosK _).2.2.2.2.2.2.2.2.2) ?_
        refine And.intro (fun c3 => ?_) (fun c3 => ?_)
        · exact And.intro (by rw [modN_n c0, cosN_a c1 c2]) (And.intro rfl rfl)
        · exact absurd c2 c3
      · refine And.intro (fb_n (cosK _).1) ?_
        refine And.intro (fb_n (cosK _).2.1) ?_
        refine And.intro (fb_n (cosK _).2.2.1) ?_
        refine And.intro (fb_n (cosK _).2.2.2.1) ?_
        refine And.intro (fb_n (cosK _).2.2.2.2.1) ?_
        refine And.intro (fb_n (cosK _).2.2.2.2.2.1) ?_
        refine And.intro (fb_n (cosK _).2.2.2.2.2.2.1) ?_
        refine And.intro (fb_n (cosK _).2.2.2.2.2.2.2.1) ?_
        refine And.intro (fb_n (cosK _).2.2.2.2.2.2.2.2.1) ?_
        refine And.intro (fb_n (cosK _).2.2.2.2.2.2.2.2.2) ?_
        refine And.intro (fun c3 => ?_) (fun c3 => ?_)
        · exact absurd c3 c2
        · exact And.intro (by rw [modN_n c0, cosN_b c1 c2]) (And.intro rfl rfl)
    · refine And.intro (fun c2 => ?_) (fun c2 => ?_)
      · refine And.intro (fb_n (cosK _).1) ?_
        refine And.intro (fb_n (cosK _).2.1) ?_
        refine And.intro (fb_n (cosK _).2.2.1) ?_
        refine And.intro (fb_n (cosK _).2.2.2.1) ?_
        refine And.intro (fb_n (cosK _).2.2.2.2.1) ?_
        refine And.intro (fb_n (cosK _).2.2.2.2.2.1) ?_
        refine And.intro (fb_n (cosK _).2.2.2.2.2.2.1) ?_
        refine And.intro (fb_n (cosK _).2.2.2.2.2.2.2.1) ?_
        refine And.intro (fb_n (cosK _).2.2.2.2.2.2.2.2.1) ?_
        refine And.intro (fb_n (cosK _).2.2.2.2.2.2.2.2.2) ?_
        refine And.intro (fun c3 => ?_) (fun c3 => ?_)
        · exact And.intro (by rw [modN_n c0, cosN_c c1 c2]) (And.intro rfl rfl)
        · exact absurd c2 c3
      · refine And.intro (fb_n (cosK _).1) ?_
        refine And.intro (fb_n (cosK _).2.1) ?_
        refine And.intro (fb_n (cosK _).2.2.1) ?_
        refine And.intro (fb_n (cosK _).2.2.2.1) ?_
        refine And.intro (fb_n (cosK _).2.2.2.2.1) ?_
        refine And.intro (fb_n (cosK _).2.2.2.2.2.1) ?_
        refine And.intro (fb_n (cosK _).2.2.2.2.2.2.1) ?_
        refine And.intro (fb_n (cosK _).2.2.2.2.2.2.2.1) ?_
        refine And.intro (fb_n (cosK _).2.2.2.2.2.2.2.2.1) ?_
        refine And.intro (fb_n (cosK _).2.2.2.2.2.2.2.2.2) ?_
        refine And.intro (fun c3 => ?_) (fun c3 => ?_)
        · exact absurd c3 c2
        · exact And.intro (by rw [modN_n c0, cosN_d c1 c2]) (And.intro rfl rfl)
end S21
