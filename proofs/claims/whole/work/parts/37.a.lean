theorem shl52 (e : Nat) (h : e < 2048) : (Int64.ofInt e <<< ((52 : Int32).toInt64 &&& 63)) = Int64.ofInt (e * 2 ^ 52) := by
  revert e
  decide +kernel
theorem of_nat64 (v : UInt64) : v.toInt64 = Int64.ofInt v.toNat := by
  apply Int64.toBitVec_inj.mp
  show v.toBitVec = BitVec.ofInt 64 (v.toNat : Int)
  rw [BitVec.ofInt_natCast]
  exact BitVec.eq_of_toNat_eq (by simp)
theorem d2l_D {y : UInt64} {D : Nat} (h : FP.Core.DInt ((D : Int) - 2 ^ 52) y) (hD : D < 2 ^ 53) : FP.d2l y = Int64.ofInt ((D : Int) - 2 ^ 52) := by
  have e : (Int64.ofInt ((D : Int) - 2 ^ 52)).toInt = (D : Int) - 2 ^ 52 := by
    rw [Int64.toInt_ofInt, show Int64.size = 2 ^ 64 from rfl]
    rw [Int.bmod_eq_of_le (by omega) (by omega)]
  exact FP.Core.d2l_int (by rw [e]; exact h)
theorem bits_sum {y : UInt64} {D w : Nat} {E : Int} (hE : E * 2 ^ 52 + ((D : Int) - 2 ^ 52) = w) (hD : D < 2 ^ 53) (h : FP.Core.DInt ((D : Int) - 2 ^ 52) y) (hw : w < 2047 * 2 ^ 52) : (Int64.ofInt E <<< ((52 : Int32).toInt64 &&& 63)) + FP.d2l y = Int64.ofInt w := by
  obtain ⟨e, rfl⟩ : ∃ e : Nat, E = e := ⟨E.toNat, by omega⟩
  rw [shl52 e (by omega), d2l_D h hD, ← Int64.ofInt_add, hE]
theorem bits_pos {v y : UInt64} {D : Nat} {E : Int} (hE : E * 2 ^ 52 + ((D : Int) - 2 ^ 52) = (v.toNat % 2 ^ 63 : Nat)) (hD : D < 2 ^ 53) (h : FP.Core.DInt ((D : Int) - 2 ^ 52) y) (hW : v.toNat % 2 ^ 63 < 2047 * 2 ^ 52) (hw : v.toNat < 2 ^ 63) : (Int64.ofInt E <<< ((52 : Int32).toInt64 &&& 63)) + FP.d2l y = v.toInt64 := by
  rw [bits_sum hE hD h hW, of_nat64]
  congr 2
  omega
theorem bits_neg {v y : UInt64} {D : Nat} {E : Int} (hE : E * 2 ^ 52 + ((D : Int) - 2 ^ 52) = (v.toNat % 2 ^ 63 : Nat)) (hD : D < 2 ^ 53) (h : FP.Core.DInt ((D : Int) - 2 ^ 52) y) (hW : v.toNat % 2 ^ 63 < 2047 * 2 ^ 52) (hw : v.toNat = v.toNat % 2 ^ 63 + 2 ^ 63) : ((Int64.ofInt E <<< ((52 : Int32).toInt64 &&& 63)) + FP.d2l y) ||| -9223372036854775808 = v.toInt64 := by
  rw [bits_sum hE hD h hW]
  have hm : v.toNat % 2 ^ 63 < 2 ^ 63 := Nat.mod_lt _ (by decide)
  generalize v.toNat % 2 ^ 63 = w at hw hm
  apply Int64.toBitVec_inj.mp
  show BitVec.ofInt 64 (w : Int) ||| (-9223372036854775808 : Int64).toBitVec = v.toBitVec
  rw [BitVec.ofInt_natCast]
  apply BitVec.eq_of_toNat_eq
  rw [BitVec.toNat_or, BitVec.toNat_ofNat, Nat.mod_eq_of_lt (by omega)]
  show w ||| 2 ^ 63 = v.toNat
  rw [hw, Nat.or_comm, Nat.add_comm]
  have := Nat.two_pow_add_eq_or_of_lt hm 1
  rw [Nat.mul_one] at this
  exact this.symm
theorem cmp_z {v : UInt64} {s : Bool} {c : Nat} {q : Int} (h : FP.Core.val64 v = .fin s c q) (hc : c * 2 ^ (q + 1074).toNat ≠ 0) : FP.dcmp v 0 = some (if s = true then .lt else .gt) := by
  have h1 := FP.Core.dcmp_zval (a := v) (b := 0) (by rw [h]; intro h; cases h) (by rw [FP.Core.val64_zero]; intro h; cases h)
  rw [FP.Core.zval64_zero] at h1
  refine (show FP.dcmp v 0 = _ from h1).trans (congrArg some ?_)
  have h2 : FP.Core.zval FP.Core.b64 (FP.Core.val64 v) = FP.Core.signed s (c * 2 ^ (q + 1074).toNat) := by
    rw [h]
    show FP.Core.signed s (FP.Core.inUnits c q FP.Core.b64.qmin) = _
    rw [un_move]
  rw [h2]
  unfold FP.Core.signed
  cases s with
  | true =>
    simp only [if_true]
    exact (FP.Core.compare_lt_iff _ _).mpr (by omega)
  | false =>
    simp only [Bool.false_eq_true, if_false]
    exact (FP.Core.compare_gt_iff _ _).mpr (by omega)
section S37
variable (g : Gp) (d : Nat) (I : MI) (D : MD)
set_option maxHeartbeats 1000000 in
theorem c_X_bitsOf (v : UInt64) (hf : FP.Core.DFin v) (hv0 : v ≠ 9223372036854775808) : Con g SHc d 13 [.double v] I D (EqP (some (.long v.toInt64)) I D) := by
  obtain ⟨s, c, q, hv⟩ := hf
  obtain ⟨hu, hs2, hw⟩ := un_bits hv
  have hn0 : c * 2 ^ (q + 1074).toNat < 2 ^ 2098 := by
    obtain ⟨f1, f2, f3, f4⟩ := fit64 hv
    refine Nat.lt_of_lt_of_le (Nat.mul_lt_mul_of_pos_right f1 (Nat.two_pow_pos _)) ?_
    rw [← Nat.pow_add]
    exact Nat.pow_le_pow_right (by decide) (by omega)
  refine Con.mk (LV := v_X_bitsOf) k_X_bitsOf (Nat.le_of_ble_eq_true rfl) (fun K hK => ?_)
  by_cases hz : c * 2 ^ (q + 1074).toNat = 0
  · have e0 : v = 0 := by
      rw [hz] at hu
      have h1 : v.toNat % 2 ^ 63 = 0 := by
        split at hu
        · exact hu.symm
        · have p := Nat.two_pow_pos (v.toNat % 2 ^ 63 / 2 ^ 52 - 1)
          have := Nat.mul_pos (show 0 < 2 ^ 52 + v.toNat % 2 ^ 63 % 2 ^ 52 by omega) p
          omega
      have h2 := v.toNat_lt
      rcases Nat.lt_or_ge v.toNat (2 ^ 63) with h3 | h3
      · exact UInt64.toNat_inj.mp (by rw [show (0 : UInt64).toNat = 0 from rfl]; omega)
      · exact absurd (UInt64.toNat_inj.mp (by rw [show (9223372036854775808 : UInt64).toNat = 2 ^ 63 from rfl]; omega)) hv0
    subst e0
    refine hK (0, 29, o_X_bitsOf_0) (List.mem_of_getElem? (i := 0) rfl) _ _ _ _ ?_
    refine And.intro (fun c1 => ?_) (fun c1 => ?_)
    · exact absurd (show Op.cmpValue (FP.dcmp 0 0) .l = 0 by decide +kernel) c1
    · exact And.intro rfl (And.intro rfl rfl)
  have hS := cmp_z hv hz
  have loop2 : ∀ (r j i n : Nat) (x : UInt64), j + r = 1022 → n * 2 ^ i = c * 2 ^ (q + 1074).toNat * 2 ^ j → Un x n → n < 2 ^ 1075 → (i = 0 ∨ 2 ^ 1074 ≤ n) → K 66 [(0, .double v), (2, .double x), (4, .long (Int64.ofInt ((1023 : Int) + i - j))), (6, .int (nI j))] [] I D := by
    intro r
    induction r with
    | zero =>
      intro j i n x hj hn hx hlt hi
      have hj : j = 1022 := by omega
      subst hj
      obtain ⟨Dg, hDn, hD⟩ : ∃ D, n = D * 2 ^ 1022 ∧ D < 2 ^ 53 := by
        rcases Nat.lt_or_ge n (2 ^ 1074) with h | h
        · have hi : i = 0 := by omega
          subst hi
          rw [Nat.pow_zero, Nat.mul_one] at hn
          refine ⟨_, hn, ?_⟩
          rw [hn, show (2 : Nat) ^ 1074 = 2 ^ 52 * 2 ^ 1022 from (congrArg (fun z : Nat => 2 ^ z) (show 1074 = 52 + 1022 from rfl)).trans (Nat.pow_add 2 52 1022)] at h
          have := Nat.lt_of_mul_lt_mul_right h
          omega
        · exact Un_big hx h hlt
      have hE := un_end hw hu hn (by omega) hDn hD (by
        rcases hi with h | h
        · exact Or.inr ⟨h, rfl⟩
        · exact Or.inl h)
      rw [hDn] at hx
      have hE2 := Un_dig hx hD
      have hm : vf_n64 (FP.dmul (FP.dsub x 4607182418800017408) 4841369599423283200) := n64_of (FP.Core.DInt_ne_nan hE2)
      have hs : vf_n64 (FP.dsub x 4607182418800017408) := Un_sub hx hD
      refine hK (66, 136, o_X_bitsOf_2) (List.mem_of_getElem? (i := 2) rfl) _ _ _ _ ?_
      refine And.intro (fun c1 => ?_) (fun c1 => ?_)
      · skip
        refine And.intro (hs) ?_
        refine And.intro (hm) ?_
        refine And.intro (fun c4 => ?_) (fun c4 => ?_)
        · have c5 : ¬ s = true := by
            intro h
            rw [h] at hS
            have c4 : Op.cmpValue (FP.dcmp v 0) .g ≥ 0 := c4
            rw [hS] at c4
            exact absurd c4 (by decide)
          refine And.intro (congrArg (fun z => some (Value.long z)) ?_) (And.intro rfl rfl)
          exact bits_pos hE hD hE2 hw (by rw [Bool.eq_false_iff.mpr c5] at hs2; have := of_decide_eq_false hs2.symm; omega)
        · have c5 : s = true := by
            cases s with
            | true => rfl
            | false =>
              have c4 : ¬ Op.cmpValue (FP.dcmp v 0) .g ≥ 0 := c4
              rw [hS] at c4
              exact absurd (by decide) c4
          refine And.intro (congrArg (fun z => some (Value.long z)) ?_) (And.intro rfl rfl)
          exact bits_neg hE hD hE2 hw (by rw [c5] at hs2; have := of_decide_eq_true hs2.symm; have := v.toNat_lt; omega)
      · exact absurd (show nI 1022 ≥ 1022 by decide) c1
    | succ r ih =>
      intro j i n x hj hn hx hlt hi
      have hj31 : ¬ nI j ≥ 1022 := nI_ge (b := 1022) (by omega) (by decide)
      have hc := Un_cmp hx Un_1
      refine hK (66, 136, o_X_bitsOf_2) (List.mem_of_getElem? (i := 2) rfl) _ _ _ _ ?_
      refine And.intro (fun c1 => ?_) (fun c1 => ?_)
      · exact absurd c1 hj31
      refine And.intro (fun c2 => ?_) (fun c2 => ?_)
      · have c2 : Op.cmpValue (FP.dcmp x 4607182418800017408) .g ≥ 0 := c2
        have hge : 2 ^ 1074 ≤ n := by
          rcases Nat.lt_or_ge n (2 ^ 1074) with h | h
          · rw [hc, (FP.Core.compare_lt_iff _ _).mpr (by exact Int.ofNat_lt.mpr h)] at c2
            exact absurd c2 (by decide)
          · exact h
        obtain ⟨Dg, hDn, hD⟩ := Un_big hx hge hlt
        have hE := un_end hw hu hn (by omega) hDn hD (Or.inl hge)
        rw [hDn] at hx
        have hE2 := Un_dig hx hD
        have hm : vf_n64 (FP.dmul (FP.dsub x 4607182418800017408) 4841369599423283200) := n64_of (FP.Core.DInt_ne_nan hE2)
        have hs : vf_n64 (FP.dsub x 4607182418800017408) := Un_sub hx hD
        refine And.intro (hs) ?_
        refine And.intro (hm) ?_
        refine And.intro (fun c4 => ?_) (fun c4 => ?_)
        · have c5 : ¬ s = true := by
            intro h
            rw [h] at hS
            have c4 : Op.cmpValue (FP.dcmp v 0) .g ≥ 0 := c4
            rw [hS] at c4
            exact absurd c4 (by decide)
          refine And.intro (congrArg (fun z => some (Value.long z)) ?_) (And.intro rfl rfl)
          exact bits_pos hE hD hE2 hw (by rw [Bool.eq_false_iff.mpr c5] at hs2; have := of_decide_eq_false hs2.symm; omega)
        · have c5 : s = true := by
            cases s with
            | true => rfl
            | false =>
              have c4 : ¬ Op.cmpValue (FP.dcmp v 0) .g ≥ 0 := c4
              rw [hS] at c4
              exact absurd (by decide) c4
          refine And.intro (congrArg (fun z => some (Value.long z)) ?_) (And.intro rfl rfl)
          exact bits_neg hE hD hE2 hw (by rw [c5] at hs2; have := of_decide_eq_true hs2.symm; have := v.toNat_lt; omega)
      · have c2 : ¬ Op.cmpValue (FP.dcmp x 4607182418800017408) .g ≥ 0 := c2
        have hlt2 : n < 2 ^ 1074 := by
          rcases Nat.lt_or_ge n (2 ^ 1074) with h | h
          · exact h
          · exfalso
            rcases Nat.lt_or_ge (2 ^ 1074) n with h2 | h2
            · rw [hc, (FP.Core.compare_gt_iff _ _).mpr (by exact Int.ofNat_lt.mpr h2)] at c2
              exact absurd (by decide) c2
            · rw [hc, (FP.Core.compare_eq_iff _ _).mpr (by exact Int.ofNat_inj.mpr (Nat.le_antisymm h2 h))] at c2
              exact absurd (by decide) c2
        have hi : i = 0 := by omega
        have hy := Un_dbl hx hlt2
        refine And.intro (Un_n hy) ?_
        have go := ih (j + 1) i (2 * n) _ (by omega) (by rw [Nat.pow_succ, ← Nat.mul_assoc, ← hn]; ac_rfl) hy (by omega) (Or.inl hi)
        rw [nI_succ, show ((1023 : Int) + i - (j + 1 : Nat)) = (1023 + i - j) - 1 by omega, Int64.ofInt_sub] at go
        exact go
  have loop1 : ∀ (r i n : Nat) (x : UInt64), i + r = 1023 → n * 2 ^ i = c * 2 ^ (q + 1074).toNat → Un x n → (i = 0 ∨ 2 ^ 1074 ≤ n) → K 29 [(0, .double v), (2, .double x), (4, .long (Int64.ofInt ((1023 : Int) + i))), (6, .int (nI i))] [] I D := by
    intro r
    induction r with
    | zero =>
      intro i n x hi hn hx hlo
      have hi : i = 1023 := by omega
      subst hi
      have hlt : n < 2 ^ 1075 := by
        rw [← hn, show (2 : Nat) ^ 2098 = 2 ^ 1075 * 2 ^ 1023 from (congrArg (fun z : Nat => 2 ^ z) (show 2098 = 1075 + 1023 from rfl)).trans (Nat.pow_add 2 1075 1023)] at hn0
        exact Nat.lt_of_mul_lt_mul_right hn0
      have go := loop2 1022 0 1023 n x rfl (by rw [hn, Nat.pow_zero, Nat.mul_one]) hx hlt (by omega)
      rw [show ((1023 : Int) + (1023 : Nat) - (0 : Nat)) = 1023 + (1023 : Nat) by omega] at go
      refine hK (29, 66, o_X_bitsOf_1) (List.mem_of_getElem? (i := 1) rfl) _ _ _ _ ?_
      refine And.intro (fun c1 => ?_) (fun c1 => ?_)
      · exact go
      · exact absurd (show nI 1023 ≥ 1023 by decide) c1
    | succ r ih =>
      intro i n x hi hn hx hlo
      have hj31 : ¬ nI i ≥ 1023 := nI_ge (b := 1023) (by omega) (by decide)
      have hc := Un_cmp hx Un_2
      refine hK (29, 66, o_X_bitsOf_1) (List.mem_of_getElem? (i := 1) rfl) _ _ _ _ ?_
      refine And.intro (fun c1 => ?_) (fun c1 => ?_)
      · exact absurd c1 hj31
      refine And.intro (fun c2 => ?_) (fun c2 => ?_)
      · have c2 : Op.cmpValue (FP.dcmp x 4611686018427387904) .l < 0 := c2
        have hlt : n < 2 ^ 1075 := by
          rcases Nat.lt_or_ge n (2 ^ 1075) with h | h
          · exact h
          · exfalso
            rcases Nat.lt_or_ge (2 ^ 1075) n with h2 | h2
            · rw [hc, (FP.Core.compare_gt_iff _ _).mpr (by exact Int.ofNat_lt.mpr h2)] at c2
              exact absurd c2 (by decide)
            · rw [hc, (FP.Core.compare_eq_iff _ _).mpr (by exact Int.ofNat_inj.mpr (Nat.le_antisymm h2 h))] at c2
              exact absurd c2 (by decide)
        have go := loop2 1022 0 i n x rfl (by rw [hn, Nat.pow_zero, Nat.mul_one]) hx hlt hlo
        rw [show ((1023 : Int) + i - (0 : Nat)) = 1023 + i by omega] at go
        exact go
      · have c2 : ¬ Op.cmpValue (FP.dcmp x 4611686018427387904) .l < 0 := c2
        have hge : 2 ^ 1075 ≤ n := by
          rcases Nat.lt_or_ge n (2 ^ 1075) with h | h
          · rw [hc, (FP.Core.compare_lt_iff _ _).mpr (by exact Int.ofNat_lt.mpr h)] at c2
            exact absurd (by decide) c2
          · exact h
        obtain ⟨k, hk, hy⟩ := Un_half hx hge
        refine And.intro (Un_n hy) ?_
        have go := ih (i + 1) k _ (by omega) (by rw [← hn, hk, Nat.pow_succ]; ac_rfl) hy (Or.inr (by omega))
        rw [nI_succ, show ((1023 : Int) + (i + 1 : Nat)) = (1023 + i) + 1 by omega, Int64.ofInt_add] at go
        exact go
  refine hK (0, 29, o_X_bitsOf_0) (List.mem_of_getElem? (i := 0) rfl) _ _ _ _ ?_
  refine And.intro (fun c1 => ?_) (fun c1 => ?_)
  · refine And.intro (fun c2 => ?_) (fun c2 => ?_)
    · have c5 : s = false := by
        cases s with
        | false => rfl
        | true =>
          have c2 : Op.cmpValue (FP.dcmp v 0) .g ≥ 0 := c2
          rw [hS] at c2
          exact absurd c2 (by decide)
      exact loop1 1023 0 _ v rfl (by rw [Nat.pow_zero, Nat.mul_one]) ⟨c, q, by rw [hv, c5], rfl⟩ (Or.inl rfl)
    · have c5 : s = true := by
        cases s with
        | true => rfl
        | false =>
          have c2 : ¬ Op.cmpValue (FP.dcmp v 0) .g ≥ 0 := c2
          rw [hS] at c2
          exact absurd (by decide) c2
      exact loop1 1023 0 _ (FP.dneg v) rfl (by rw [Nat.pow_zero, Nat.mul_one]) ⟨c, q, by rw [FP.val64_dneg, hv, c5]; rfl, rfl⟩ (Or.inl rfl)
  · have c1 : Op.cmpValue (FP.dcmp v 0) .l = 0 := c1
    rw [hS] at c1
    cases s <;> exact absurd c1 (by decide)
end S37
