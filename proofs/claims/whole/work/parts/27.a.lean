section S27
variable (g : Gp) (d : Nat) (I : MI) (D : MD)
theorem c_M_reading (n : Nat) (hn : n ≤ 10) (hI : I 12 18 = nI n) (hs : ∀ j, j < n → ∃ r, r ≤ 120 ∧ I 87 j = nI r) (ga v a : Int32) : Con g SHc (d + 2) 167 [.ref 12, .int ga, .int v, .int a] I D (EqP (some (.int (if (ix ga (nI n) && wi v (-32768) 32767) = true then (if I 12 0 < I 84 ga.toNatClampNeg + I 87 ga.toNatClampNeg * I 85 ga.toNatClampNeg then -3 else if (decide (120 ≤ I 87 ga.toNatClampNeg) || decide (3000 ≤ I 12 2)) = true then -4 else if I 86 ga.toNatClampNeg = 0 then I 87 ga.toNatClampNeg + 1 else -11) else -2)))
      (if (ix ga (nI n) && wi v (-32768) 32767) = true then (if I 12 0 < I 84 ga.toNatClampNeg + I 87 ga.toNatClampNeg * I 85 ga.toNatClampNeg then I else if (decide (120 ≤ I 87 ga.toNatClampNeg) || decide (3000 ≤ I 12 2)) = true then I else if I 86 ga.toNatClampNeg = 0 then rdM I ga.toNatClampNeg (I 87 ga.toNatClampNeg).toNatClampNeg v (if noF a = true then 2143289344 else a) else tellM 1 I) else I) D) := by
  refine Con.mk (LV := v_M_reading) k_M_reading (Nat.le_of_ble_eq_true rfl) (fun K hK => ?_)
  refine hK (0, 140, o_M_reading_0) (List.mem_of_getElem? (i := 0) rfl) _ _ _ _ ?_
  refine call_eq (c_M_isGauge g d I D ga) ?_
  rw [hI, ix_wi (by omega)]
  refine And.intro (fun c1 => ?_) (fun c1 => ?_)
  · exact And.intro (by simp [bI_0.mp c1]) (And.intro (by simp [bI_0.mp c1]) (by first | rfl | simp [bI_0.mp c1]))
  have h1 : ix ga (nI n) = true := bI_n0.mp c1
  obtain ⟨j, hj, rfl⟩ := ix_nI (by omega) h1
  have hc : (nI j).toNatClampNeg = j := nI_clamp (by omega)
  have hi : inn (nI j) 10 := inn_nI (by omega) (by decide)
  obtain ⟨r, hr, he⟩ := hs j hj
  rw [h1, hc]
  refine call_eq (c_M_in g (d + 1) I D v (-32768) 32767) ?_
  refine And.intro (fun c2 => ?_) (fun c2 => ?_)
  · have h2 := bI_n0.mp c2
    rw [h2]
    refine And.intro (hi) ?_
    rw [hc]
    refine call_eq (c_M_momentOf g (d + 1) I D j (by omega) _) ?_
    refine And.intro (fun c3 => ?_) (fun c3 => ?_)
    · refine And.intro (hi) ?_
      rw [hc]
      refine And.intro (fun c4 => ?_) (fun c4 => ?_)
      · rw [c4] at c3
        exact And.intro (by simp [c4, i32_nlt.mpr c3]) (And.intro (by simp [c4, i32_nlt.mpr c3]) (by first | rfl | simp [c4, i32_nlt.mpr c3]))
      · rw [he] at c4 c3
        have hr2 : r < 120 := by
          rcases Nat.lt_or_ge r 120 with h | h
          · exact h
          · exact absurd (by rw [show r = 120 by omega]; rfl) c4
        have c4 : ¬ 120 ≤ nI r := nI_ge (b := 120) hr2 (by decide)
        refine call_eq (c_M_isFull g (d + 1) I D) ?_
        refine And.intro (fun c5 => ?_) (fun c5 => ?_)
        · refine And.intro (hi) ?_
          rw [hc]
          have h5 := bI_0.mp c5
          refine And.intro (fun c6 => ?_) (fun c6 => ?_)
          · refine And.intro (hi) ?_
            rw [hc, he]
            have e1 : 120 * nI j + nI r = nI (120 * j + r) := nI_lin' 120 j r
            have b1 : inn (nI (120 * j + r)) 1200 := inn_nI (by omega) (by decide)
            refine And.intro (by rw [e1]; exact b1) ?_
            rw [e1]
            refine call_eq (c_M_isNoFloat g (d + 1) _ D a) ?_
            have e5 : I 87 j + 1 = nI (r + 1) := by rw [he]; exact nI_1 r
            refine And.intro (fun c7 => ?_) (fun c7 => ?_)
            · refine And.intro (b1) ?_
              refine And.intro (hi) ?_
              refine And.intro (hi) ?_
              refine And.intro (hi) ?_
              rw [hc, nI_clamp (show 120 * j + r < 2 ^ 31 by omega)]
              refine And.intro ?_ (And.intro ?_ rfl)
              · rw [up2_at]
                refine (congrArg (fun z => some (Value.int z)) e5).trans ?_
                simp [c4, i32_nlt.mpr c3, h5, c6, bI_0.mp c7, nI_1]
              · refine (congrArg (up2 _ _ _) e5).trans ?_
                simp [c4, i32_nlt.mpr c3, h5, c6, bI_0.mp c7, rdM, nI_clamp (show r < 2 ^ 31 by omega)]
            · refine And.intro (b1) ?_
              refine And.intro (hi) ?_
              refine And.intro (hi) ?_
              refine And.intro (hi) ?_
              rw [hc, nI_clamp (show 120 * j + r < 2 ^ 31 by omega)]
              refine And.intro ?_ (And.intro ?_ rfl)
              · rw [up2_at]
                refine (congrArg (fun z => some (Value.int z)) e5).trans ?_
                simp [c4, i32_nlt.mpr c3, h5, c6, bI_n0.mp c7, nI_1]
              · refine (congrArg (up2 _ _ _) e5).trans ?_
                simp [c4, i32_nlt.mpr c3, h5, c6, bI_n0.mp c7, rdM, nI_clamp (show r < 2 ^ 31 by omega)]
          · refine call_eq (c_M_fails g (d + 1) I D 1) ?_
            exact And.intro (by simp [he, c4, i32_nlt.mpr c3, h5, c6]) (And.intro (by simp [he, c4, i32_nlt.mpr c3, h5, c6]) (by first | rfl | simp [he, c4, i32_nlt.mpr c3, h5, c6]))
        · exact And.intro (by simp [he, c4, i32_nlt.mpr c3, bI_n0.mp c5]) (And.intro (by simp [he, c4, i32_nlt.mpr c3, bI_n0.mp c5]) (by first | rfl | simp [he, c4, i32_nlt.mpr c3, bI_n0.mp c5]))
    · exact And.intro (by simp [i32_nle.mp c3]) (And.intro (by simp [i32_nle.mp c3]) (by first | rfl | simp [i32_nle.mp c3]))
  · exact And.intro (by simp [bI_0.mp c2]) (And.intro (by simp [bI_0.mp c2]) (by first | rfl | simp [bI_0.mp c2]))
theorem c_M_gauge (n : Nat) (hn : n ≤ 10) (hI : I 12 18 = nI n) (s f p : Int32) : Con g SHc (d + 2) 166 [.ref 12, .int s, .int f, .int p] I D (EqP (some (.int (if (wi s 0 11 && wi f 0 2591999 && wi p 60 7200) = true then (if n < 10 then nI n else -4) else -2))) (if (wi s 0 11 && wi f 0 2591999 && wi p 60 7200) = true then (if n < 10 then gaM I s f p else I) else I) D) := by
  refine Con.mk (LV := v_M_gauge) k_M_gauge (Nat.le_of_ble_eq_true rfl) (fun K hK => ?_)
  refine hK (0, 88, o_M_gauge_0) (List.mem_of_getElem? (i := 0) rfl) _ _ _ _ ?_
  refine call_eq (c_M_isStation g d I D s) ?_
  refine And.intro (fun c1 => ?_) (fun c1 => ?_)
  · exact And.intro (by simp [bI_0.mp c1]) (And.intro (by simp [bI_0.mp c1]) (by first | rfl | simp [bI_0.mp c1]))
  refine call_eq (c_M_isMoment g d I D f) ?_
  refine And.intro (fun c2 => ?_) (fun c2 => ?_)
  · exact And.intro (by simp [bI_0.mp c2]) (And.intro (by simp [bI_0.mp c2]) (by first | rfl | simp [bI_0.mp c2]))
  refine call_eq (c_M_in g (d + 1) I D p 60 7200) ?_
  refine And.intro (fun c3 => ?_) (fun c3 => ?_)
  · rw [bI_n0.mp c1, bI_n0.mp c2, bI_n0.mp c3]
    refine And.intro (fun c4 => ?_) (fun c4 => ?_)
    · rw [hI] at c4
      have c4 : n < 10 := by
        rcases Nat.lt_or_ge n 10 with h | h
        · exact h
        · exact absurd (by rw [show n = 10 by omega]; rfl) c4
      have hI0 : ∀ z : MI, z 12 18 = nI n → inn (z 12 18) 10 := fun z h => by rw [h]; exact inn_nI c4 (by decide)
      refine And.intro (hI0 I hI) ?_
      refine And.intro (hI0 _ hI) ?_
      refine And.intro (hI0 _ hI) ?_
      refine And.intro ?_ (And.intro ?_ rfl)
      · rw [up2_at]
        refine (congrArg (fun z => some (Value.int z)) ((congrArg (fun z : Int32 => z + 1 - 1) hI).trans (by rw [nI_1, nI_pred]))).trans ?_
        simp [c4]
      · simp [c4]
        rfl
    · rw [hI] at c4
      have c5 : n = 10 := (nI_eq (a := n) (b := 10) (by omega) (by decide)).mp c4
      have c4 : ¬ n < 10 := by omega
      exact And.intro (by simp [c4]) (And.intro (by simp [c4]) (by first | rfl | simp [c4]))
  · exact And.intro (by simp [bI_0.mp c3]) (And.intro (by simp [bI_0.mp c3]) (by first | rfl | simp [bI_0.mp c3]))
theorem c_X_at (n : Nat) (hn : n ≤ 10) (hI : I 3 9 = nI n) (hs : ∀ j, j < n → ∃ r, r ≤ 120 ∧ I 26 j = nI r) (ga i : Int32) : Con g SHc (d + 1) 29 [.ref 0, .int ga, .int i] I D
    (EqP (some (.int (if (ix ga (nI n) && !decide (3000 ≤ I 1 0)) = true then (if I 25 ga.toNatClampNeg = 0 then (if ix i (I 26 ga.toNatClampNeg) = true then I 27 (120 * ga.toNatClampNeg + i.toNatClampNeg) else -100000 - 2) else -100000 - 1) else -100000)))
      (if (ix ga (nI n) && !decide (3000 ≤ I 1 0)) = true then (if I 25 ga.toNatClampNeg = 0 then (if ix i (I 26 ga.toNatClampNeg) = true then I else tellX 2 I) else tellX 1 I) else I) D) := by
  refine Con.mk (LV := v_X_at) k_X_at (Nat.le_of_ble_eq_true rfl) (fun K hK => ?_)
  refine hK (0, 64, o_X_at_0) (List.mem_of_getElem? (i := 0) rfl) _ _ _ _ ?_
  refine call_eq (c_X_isGauge g d I D ga) ?_
  rw [hI]
  refine And.intro (fun c1 => ?_) (fun c1 => ?_)
  · exact And.intro (by simp [bI_0.mp c1, ix]) (And.intro (by simp [bI_0.mp c1, ix]) (by first | rfl | simp [bI_0.mp c1, ix]))
  have h1 : ix ga (nI n) = true := bI_n0.mp c1
  obtain ⟨j, hj, rfl⟩ := ix_nI (by omega) h1
  have hc : (nI j).toNatClampNeg = j := nI_clamp (by omega)
  obtain ⟨r, hr, he⟩ := hs j hj
  rw [h1, hc]
  refine call_eq (c_X_areSpent g d I D) ?_
  refine And.intro (fun c2 => ?_) (fun c2 => ?_)
  · have h2 := bI_0.mp c2
    rw [h2]
    refine call_eq (c_X_faultAt g d I D j (by omega) i) ?_
    rw [he]
    by_cases c3 : I 25 j = 0
    · rw [c3]
      by_cases c4 : ix i (nI r) = true
      · obtain ⟨k, hk, rfl⟩ := ix_nI (by omega) c4
        simp only [c4, if_true, if_pos]
        refine And.intro (fun c5 => ?_) (fun c5 => ?_)
        · have e1 : nI j * 120 + nI k = nI (120 * j + k) := by rw [show (120 : Int32) = nI 120 from rfl, pk_mul, nI_add, Nat.mul_comm]
          refine And.intro (by rw [e1]; exact inn_nI (by omega) (by decide)) ?_
          rw [e1, nI_clamp (show 120 * j + k < 2 ^ 31 by omega)]
          exact And.intro (by simp [nI_clamp (show k < 2 ^ 31 by omega)]) (And.intro (by simp [nI_clamp (show k < 2 ^ 31 by omega)]) (by first | rfl | simp [nI_clamp (show k < 2 ^ 31 by omega)]))
        · exact absurd rfl c5
      · simp only [c4, if_true, if_false]
        refine And.intro (fun c5 => ?_) (fun c5 => ?_)
        · exact absurd c5 (by decide)
        · refine call_eq (c_X_tell g d I D _) ?_
          exact And.intro (by simp [c4]) (And.intro (by simp [c4]) (by first | rfl | simp [c4]))
    · simp only [c3, if_false]
      refine And.intro (fun c5 => ?_) (fun c5 => ?_)
      · exact absurd c5 (by decide)
      · refine call_eq (c_X_tell g d I D _) ?_
        exact And.intro (by simp [c3]) (And.intro (by simp [c3]) (by first | rfl | simp [c3]))
  · exact And.intro (by simp [bI_n0.mp c2]) (And.intro (by simp [bI_n0.mp c2]) (by first | rfl | simp [bI_n0.mp c2]))
theorem c_X_air (n : Nat) (hn : n ≤ 10) (hI : I 3 9 = nI n) (hs : ∀ j, j < n → ∃ r, r ≤ 120 ∧ I 26 j = nI r) (ga i : Int32) : Con g SHc (d + 1) 31 [.ref 0, .int ga, .int i] I D
    (EqP (some (.int (if (ix ga (nI n) && !decide (3000 ≤ I 1 0)) = true then (if I 25 ga.toNatClampNeg = 0 then (if ix i (I 26 ga.toNatClampNeg) = true then I 28 (120 * ga.toNatClampNeg + i.toNatClampNeg) else 2143289344) else 2143289344) else 2143289344)))
      (if (ix ga (nI n) && !decide (3000 ≤ I 1 0)) = true then (if I 25 ga.toNatClampNeg = 0 then (if ix i (I 26 ga.toNatClampNeg) = true then I else tellX 2 I) else tellX 1 I) else I) D) := by
  refine Con.mk (LV := v_X_air) k_X_air (Nat.le_of_ble_eq_true rfl) (fun K hK => ?_)
  refine hK (0, 62, o_X_air_0) (List.mem_of_getElem? (i := 0) rfl) _ _ _ _ ?_
  refine call_eq (c_X_isGauge g d I D ga) ?_
  rw [hI]
  refine And.intro (fun c1 => ?_) (fun c1 => ?_)
  · exact And.intro (by simp [bI_0.mp c1, ix]) (And.intro (by simp [bI_0.mp c1, ix]) (by first | rfl | simp [bI_0.mp c1, ix]))
  have h1 : ix ga (nI n) = true := bI_n0.mp c1
  obtain ⟨j, hj, rfl⟩ := ix_nI (by omega) h1
  have hc : (nI j).toNatClampNeg = j := nI_clamp (by omega)
  obtain ⟨r, hr, he⟩ := hs j hj
  rw [h1, hc]
  refine call_eq (c_X_areSpent g d I D) ?_
  refine And.intro (fun c2 => ?_) (fun c2 => ?_)
  · have h2 := bI_0.mp c2
    rw [h2]
    refine call_eq (c_X_faultAt g d I D j (by omega) i) ?_
    rw [he]
    by_cases c3 : I 25 j = 0
    · rw [c3]
      by_cases c4 : ix i (nI r) = true
      · obtain ⟨k, hk, rfl⟩ := ix_nI (by omega) c4
        simp only [c4, if_true, if_pos]
        refine And.intro (fun c5 => ?_) (fun c5 => ?_)
        · have e1 : nI j * 120 + nI k = nI (120 * j + k) := by rw [show (120 : Int32) = nI 120 from rfl, pk_mul, nI_add, Nat.mul_comm]
          refine And.intro (by rw [e1]; exact inn_nI (by omega) (by decide)) ?_
          rw [e1, nI_clamp (show 120 * j + k < 2 ^ 31 by omega)]
          exact And.intro (by simp [nI_clamp (show k < 2 ^ 31 by omega)]) (And.intro (by simp [nI_clamp (show k < 2 ^ 31 by omega)]) (by first | rfl | simp [nI_clamp (show k < 2 ^ 31 by omega)]))
        · exact absurd rfl c5
      · simp only [c4, if_true, if_false]
        refine And.intro (fun c5 => ?_) (fun c5 => ?_)
        · exact absurd c5 (by decide)
        · refine call_eq (c_X_tell g d I D _) ?_
          exact And.intro (by simp [c4]) (And.intro (by simp [c4]) (by first | rfl | simp [c4]))
    · simp only [c3, if_false]
      refine And.intro (fun c5 => ?_) (fun c5 => ?_)
      · exact absurd c5 (by decide)
      · refine call_eq (c_X_tell g d I D _) ?_
        exact And.intro (by simp [c3]) (And.intro (by simp [c3]) (by first | rfl | simp [c3]))
  · exact And.intro (by simp [bI_n0.mp c2]) (And.intro (by simp [bI_n0.mp c2]) (by first | rfl | simp [bI_n0.mp c2]))
theorem c_M_at (n : Nat) (hn : n ≤ 10) (hI : I 12 18 = nI n) (hs : ∀ j, j < n → ∃ r, r ≤ 120 ∧ I 87 j = nI r) (ga i : Int32) : Con g SHc (d + 2) 172 [.ref 12, .int ga, .int i] I D
    (EqP (some (.int (if (ix ga (nI n) && !decide (3000 ≤ I 12 2)) = true then (if I 86 ga.toNatClampNeg = 0 then (if ix i (I 87 ga.toNatClampNeg) = true then I 88 (120 * ga.toNatClampNeg + i.toNatClampNeg) else -100000 - 2) else -100000 - 1) else -100000)))
      (if (ix ga (nI n) && !decide (3000 ≤ I 12 2)) = true then (if I 86 ga.toNatClampNeg = 0 then (if ix i (I 87 ga.toNatClampNeg) = true then I else tellM 2 I) else tellM 1 I) else I) D) := by
  refine Con.mk (LV := v_M_at) k_M_at (Nat.le_of_ble_eq_true rfl) (fun K hK => ?_)
  refine hK (0, 52, o_M_at_0) (List.mem_of_getElem? (i := 0) rfl) _ _ _ _ ?_
  refine call_eq (c_M_isGauge g d I D ga) ?_
  rw [hI, ix_wi (by omega)]
  refine And.intro (fun c1 => ?_) (fun c1 => ?_)
  · exact And.intro (by simp [bI_0.mp c1]) (And.intro (by simp [bI_0.mp c1]) (by first | rfl | simp [bI_0.mp c1]))
  have h1 : ix ga (nI n) = true := bI_n0.mp c1
  obtain ⟨j, hj, rfl⟩ := ix_nI (by omega) h1
  have hc : (nI j).toNatClampNeg = j := nI_clamp (by omega)
  obtain ⟨r, hr, he⟩ := hs j hj
  rw [h1, hc]
  refine call_eq (c_M_isFull g (d + 1) I D) ?_
  refine And.intro (fun c2 => ?_) (fun c2 => ?_)
  · have h2 := bI_0.mp c2
    rw [h2]
    refine call_eq (c_M_reads g d I D j r (by omega) (by omega) he i) ?_
    rw [he]
    by_cases c3 : I 86 j = 0
    · rw [c3]
      by_cases c4 : ix i (nI r) = true
      · obtain ⟨k, hk, rfl⟩ := ix_nI (by omega) c4
        simp only [c4, if_true, if_pos]
        refine And.intro (fun c5 => ?_) (fun c5 => ?_)
        · have e1 : 120 * nI j + nI k = nI (120 * j + k) := nI_lin' 120 j k
          refine And.intro (by rw [e1]; exact inn_nI (by omega) (by decide)) ?_
          rw [e1, nI_clamp (show 120 * j + k < 2 ^ 31 by omega)]
          exact And.intro (by simp [nI_clamp (show k < 2 ^ 31 by omega)]) (And.intro (by simp [nI_clamp (show k < 2 ^ 31 by omega)]) (by first | rfl | simp [nI_clamp (show k < 2 ^ 31 by omega)]))
        · exact absurd rfl c5
      · simp only [c4, if_true, if_false]
        refine And.intro (fun c5 => ?_) (fun c5 => ?_)
        · exact absurd c5 (by decide)
        · refine call_eq (c_M_fails g (d + 1) I D _) ?_
          exact And.intro (by simp [c4]) (And.intro (by simp [c4]) (by first | rfl | simp [c4]))
    · simp only [c3, if_false]
      refine And.intro (fun c5 => ?_) (fun c5 => ?_)
      · exact absurd c5 (by decide)
      · refine call_eq (c_M_fails g (d + 1) I D _) ?_
        exact And.intro (by simp [c3]) (And.intro (by simp [c3]) (by first | rfl | simp [c3]))
  · exact And.intro (by simp [bI_n0.mp c2]) (And.intro (by simp [bI_n0.mp c2]) (by first | rfl | simp [bI_n0.mp c2]))
theorem c_M_air (n : Nat) (hn : n ≤ 10) (hI : I 12 18 = nI n) (hs : ∀ j, j < n → ∃ r, r ≤ 120 ∧ I 87 j = nI r) (ga i : Int32) : Con g SHc (d + 2) 174 [.ref 12, .int ga, .int i] I D
    (EqP (some (.int (if (ix ga (nI n) && !decide (3000 ≤ I 12 2)) = true then (if I 86 ga.toNatClampNeg = 0 then (if ix i (I 87 ga.toNatClampNeg) = true then I 89 (120 * ga.toNatClampNeg + i.toNatClampNeg) else 2143289344) else 2143289344) else 2143289344)))
      (if (ix ga (nI n) && !decide (3000 ≤ I 12 2)) = true then (if I 86 ga.toNatClampNeg = 0 then (if ix i (I 87 ga.toNatClampNeg) = true then I else tellM 2 I) else tellM 1 I) else I) D) := by
  refine Con.mk (LV := v_M_air) k_M_air (Nat.le_of_ble_eq_true rfl) (fun K hK => ?_)
  refine hK (0, 52, o_M_air_0) (List.mem_of_getElem? (i := 0) rfl) _ _ _ _ ?_
  refine call_eq (c_M_isGauge g d I D ga) ?_
  rw [hI, ix_wi (by omega)]
  refine And.intro (fun c1 => ?_) (fun c1 => ?_)
  · exact And.intro (by simp [bI_0.mp c1]) (And.intro (by simp [bI_0.mp c1]) (by first | rfl | simp [bI_0.mp c1]))
  have h1 : ix ga (nI n) = true := bI_n0.mp c1
  obtain ⟨j, hj, rfl⟩ := ix_nI (by omega) h1
  have hc : (nI j).toNatClampNeg = j := nI_clamp (by omega)
  obtain ⟨r, hr, he⟩ := hs j hj
  rw [h1, hc]
  refine call_eq (c_M_isFull g (d + 1) I D) ?_
  refine And.intro (fun c2 => ?_) (fun c2 => ?_)
  · have h2 := bI_0.mp c2
    rw [h2]
    refine call_eq (c_M_reads g d I D j r (by omega) (by omega) he i) ?_
    rw [he]
    by_cases c3 : I 86 j = 0
    · rw [c3]
      by_cases c4 : ix i (nI r) = true
      · obtain ⟨k, hk, rfl⟩ := ix_nI (by omega) c4
        simp only [c4, if_true, if_pos]
        refine And.intro (fun c5 => ?_) (fun c5 => ?_)
        · have e1 : 120 * nI j + nI k = nI (120 * j + k) := nI_lin' 120 j k
          refine And.intro (by rw [e1]; exact inn_nI (by omega) (by decide)) ?_
          rw [e1, nI_clamp (show 120 * j + k < 2 ^ 31 by omega)]
          exact And.intro (by simp [nI_clamp (show k < 2 ^ 31 by omega)]) (And.intro (by simp [nI_clamp (show k < 2 ^ 31 by omega)]) (by first | rfl | simp [nI_clamp (show k < 2 ^ 31 by omega)]))
        · exact absurd rfl c5
      · simp only [c4, if_true, if_false]
        refine And.intro (fun c5 => ?_) (fun c5 => ?_)
        · exact absurd c5 (by decide)
        · refine call_eq (c_M_fails g (d + 1) I D _) ?_
          exact And.intro (by simp [c4]) (And.intro (by simp [c4]) (by first | rfl | simp [c4]))
    · simp only [c3, if_false]
      refine And.intro (fun c5 => ?_) (fun c5 => ?_)
      · exact absurd c5 (by decide)
      · refine call_eq (c_M_fails g (d + 1) I D _) ?_
        exact And.intro (by simp [c3]) (And.intro (by simp [c3]) (by first | rfl | simp [c3]))
  · exact And.intro (by simp [bI_n0.mp c2]) (And.intro (by simp [bI_n0.mp c2]) (by first | rfl | simp [bI_n0.mp c2]))
theorem c_X_lacking : Con g SHc d 40 [.ref 0] I D (EqP (some (.int (I 0 13))) I D) := by
  refine Con.mk (LV := v_X_lacking) k_X_lacking (Nat.le_of_ble_eq_true rfl) (fun K hK => ?_)
  refine hK (0, 5, o_X_lacking_0) (List.mem_of_getElem? (i := 0) rfl) _ _ _ _ ?_
  exact And.intro rfl (And.intro rfl rfl)
theorem c_M_lacking : Con g SHc d 179 [.ref 12] I D (EqP (some (.int (I 12 29))) I D) := by
  refine Con.mk (LV := v_M_lacking) k_M_lacking (Nat.le_of_ble_eq_true rfl) (fun K hK => ?_)
  refine hK (0, 5, o_M_lacking_0) (List.mem_of_getElem? (i := 0) rfl) _ _ _ _ ?_
  exact And.intro rfl (And.intro rfl rfl)
end S27
