section S32
variable (g : Gp) (d : Nat) (I : MI) (D : MD)
theorem c_X_compare (n : Nat) (hn : n ≤ 10) (hI : I 3 9 = nI n) (hs : ∀ j, j < n → ∃ r, r ≤ 120 ∧ I 26 j = nI r) (ga i k : Int32) : Con g SHc (d + 2) 32 [.ref 0, .int ga, .int i, .int k] I D (EqP (some (.int (if ix ga (nI n) = true then (if 3000 ≤ I 1 0 then -4 else (if I 25 ga.toNatClampNeg = 0 then (if ix i (I 26 ga.toNatClampNeg) = true then (if ix k (I 26 ga.toNatClampNeg) = true then cmpR (I 28 (120 * ga.toNatClampNeg + i.toNatClampNeg)) (I 28 (120 * ga.toNatClampNeg + k.toNatClampNeg)) else -12) else -12) else -11)) else -2))) (if ix ga (nI n) = true then (if 3000 ≤ I 1 0 then I else (if I 25 ga.toNatClampNeg = 0 then (if ix i (I 26 ga.toNatClampNeg) = true then (if ix k (I 26 ga.toNatClampNeg) = true then I else tellX 2 I) else tellX 2 I) else tellX 1 I)) else I) D) := by
  refine Con.mk (LV := v_X_compare) k_X_compare (Nat.le_of_ble_eq_true rfl) (fun K hK => ?_)
  refine hK (0, 98, o_X_compare_0) (List.mem_of_getElem? (i := 0) rfl) _ _ _ _ ?_
  refine call_eq (c_X_isGauge g (d + 1) I D ga) ?_
  rw [hI]
  refine And.intro (fun c1 => ?_) (fun c1 => ?_)
  · have h1 : ix ga (nI n) = true := bI_n0.mp c1
    obtain ⟨j, hj, rfl⟩ := ix_nI (by omega) h1
    have hc : (nI j).toNatClampNeg = j := nI_clamp (by omega)
    obtain ⟨r, hr, he⟩ := hs j hj
    rw [h1, hc]
    refine call_eq (c_X_areSpent g (d + 1) I D) ?_
    refine And.intro (fun c2 => ?_) (fun c2 => ?_)
    · have h2 : ¬ 3000 ≤ I 1 0 := of_decide_eq_false (bI_0.mp c2)
      refine call_eq (c_X_faultAt g (d + 1) I D j (by omega) i) ?_
      rw [he]
      by_cases c3 : I 25 j = 0
      · rw [c3]
        by_cases c4 : ix i (nI r) = true
        · obtain ⟨u, hu, rfl⟩ := ix_nI (by omega) c4
          simp only [c4, if_true, if_pos]
          refine And.intro (fun h => absurd rfl h) (fun _ => ?_)
          refine call_eq (c_X_faultAt g (d + 1) I D j (by omega) k) ?_
          rw [he, c3]
          by_cases c5 : ix k (nI r) = true
          · obtain ⟨w, hw, rfl⟩ := ix_nI (by omega) c5
            simp only [c5, if_true, if_pos]
            refine And.intro (fun _ => ?_) (fun h => absurd rfl h)
            have e1 : nI j * 120 + nI u = nI (120 * j + u) := by rw [show (120 : Int32) = nI 120 from rfl, pk_mul, nI_add, Nat.mul_comm]
            have e2 : nI j * 120 + nI w = nI (120 * j + w) := by rw [show (120 : Int32) = nI 120 from rfl, pk_mul, nI_add, Nat.mul_comm]
            refine And.intro (by rw [e1]; exact inn_nI (by omega) (by decide)) ?_
            refine And.intro (by rw [e2]; exact inn_nI (by omega) (by decide)) ?_
            rw [e1, e2, nI_clamp (show 120 * j + u < 2 ^ 31 by omega), nI_clamp (show 120 * j + w < 2 ^ 31 by omega)]
            refine call_eq (c_X_relationsOf g d I D _ _) ?_
            exact And.intro (by simp [nI_clamp (show u < 2 ^ 31 by omega), nI_clamp (show w < 2 ^ 31 by omega), c4, c5, h2]) (And.intro (by first | (simp [nI_clamp (show u < 2 ^ 31 by omega), nI_clamp (show w < 2 ^ 31 by omega), c4, c5, h2]; done) | (simp [nI_clamp (show u < 2 ^ 31 by omega), nI_clamp (show w < 2 ^ 31 by omega), c4, c5, h2]; rfl)) (by first | rfl | simp [nI_clamp (show u < 2 ^ 31 by omega), nI_clamp (show w < 2 ^ 31 by omega), c4, c5, h2]))
          · simp only [c5, if_true, if_false]
            refine And.intro (fun h => absurd h (by decide)) (fun _ => ?_)
            refine call_eq (c_X_tell g (d + 1) I D _) ?_
            exact And.intro (by simp [c4, c5, h2]) (And.intro (by first | (simp [c4, c5, h2]; done) | (simp [c4, c5, h2]; rfl)) (by first | rfl | simp [c4, c5, h2]))
        · simp only [c4, if_true, if_false]
          refine And.intro (fun _ => ?_) (fun h => absurd h (by decide))
          refine And.intro (fun h => absurd h (by decide)) (fun _ => ?_)
          refine call_eq (c_X_tell g (d + 1) I D _) ?_
          exact And.intro (by simp [c4, h2]) (And.intro (by first | (simp [c4, h2]; done) | (simp [c4, h2]; rfl)) (by first | rfl | simp [c4, h2]))
      · simp only [c3, if_false]
        refine And.intro (fun _ => ?_) (fun h => absurd h (by decide))
        refine And.intro (fun h => absurd h (by decide)) (fun _ => ?_)
        refine call_eq (c_X_tell g (d + 1) I D _) ?_
        exact And.intro (by simp [c3, h2]) (And.intro (by first | (simp [c3, h2]; done) | (simp [c3, h2]; rfl)) (by first | rfl | simp [c3, h2]))
    · exact And.intro (by simp [of_decide_eq_true (bI_n0.mp c2)]) (And.intro (by first | (simp [of_decide_eq_true (bI_n0.mp c2)]; done) | (simp [of_decide_eq_true (bI_n0.mp c2)]; rfl)) (by first | rfl | simp [of_decide_eq_true (bI_n0.mp c2)]))
  · exact And.intro (by simp [bI_0.mp c1, ix]) (And.intro (by first | (simp [bI_0.mp c1, ix]; done) | (simp [bI_0.mp c1, ix]; rfl)) (by first | rfl | simp [bI_0.mp c1, ix]))
theorem c_M_compare (n : Nat) (hn : n ≤ 10) (hI : I 12 18 = nI n) (hs : ∀ j, j < n → ∃ r, r ≤ 120 ∧ I 87 j = nI r) (ha : ∀ j k, j < n → nI k < I 87 j → k < 120 → noF (I 89 (120 * j + k)) = true → I 89 (120 * j + k) = 2143289344) (ga i k : Int32) : Con g SHc (d + 2) 175 [.ref 12, .int ga, .int i, .int k] I D (EqP (some (.int (if ix ga (nI n) = true then (if 3000 ≤ I 12 2 then -4 else (if I 86 ga.toNatClampNeg = 0 then (if ix i (I 87 ga.toNatClampNeg) = true then (if ix k (I 87 ga.toNatClampNeg) = true then cmpR (I 89 (120 * ga.toNatClampNeg + i.toNatClampNeg)) (I 89 (120 * ga.toNatClampNeg + k.toNatClampNeg)) else -12) else -12) else -11)) else -2))) (if ix ga (nI n) = true then (if 3000 ≤ I 12 2 then I else (if I 86 ga.toNatClampNeg = 0 then (if ix i (I 87 ga.toNatClampNeg) = true then (if ix k (I 87 ga.toNatClampNeg) = true then I else tellM 2 I) else tellM 2 I) else tellM 1 I)) else I) D) := by
  refine Con.mk (LV := v_M_compare) k_M_compare (Nat.le_of_ble_eq_true rfl) (fun K hK => ?_)
  refine hK (0, 182, o_M_compare_0) (List.mem_of_getElem? (i := 0) rfl) _ _ _ _ ?_
  refine call_eq (c_M_isGauge g d I D ga) ?_
  rw [hI, ix_wi (by omega)]
  refine And.intro (fun c1 => ?_) (fun c1 => ?_)
  · have h1 : ix ga (nI n) = true := bI_n0.mp c1
    obtain ⟨j, hj, rfl⟩ := ix_nI (by omega) h1
    have hc : (nI j).toNatClampNeg = j := nI_clamp (by omega)
    obtain ⟨r, hr, he⟩ := hs j hj
    rw [h1, hc]
    refine call_eq (c_M_isFull g (d + 1) I D) ?_
    refine And.intro (fun c2 => ?_) (fun c2 => ?_)
    · have h2 : ¬ 3000 ≤ I 12 2 := of_decide_eq_false (bI_0.mp c2)
      refine call_eq (c_M_reads g d I D j r (by omega) (by omega) he i) ?_
      rw [he]
      by_cases c3 : I 86 j = 0
      · rw [c3]
        by_cases c4 : ix i (nI r) = true
        · obtain ⟨u, hu, rfl⟩ := ix_nI (by omega) c4
          simp only [c4, if_true, if_pos]
          refine And.intro (fun h => absurd rfl h) (fun _ => ?_)
          refine call_eq (c_M_reads g d I D j r (by omega) (by omega) he k) ?_
          rw [he, c3]
          by_cases c5 : ix k (nI r) = true
          · obtain ⟨w, hw, rfl⟩ := ix_nI (by omega) c5
            simp only [c5, if_true, if_pos]
            refine And.intro (fun _ => ?_) (fun h => absurd rfl h)
            have e1 : 120 * nI j + nI u = nI (120 * j + u) := nI_lin' 120 j u
            have e2 : 120 * nI j + nI w = nI (120 * j + w) := nI_lin' 120 j w
            refine And.intro (by rw [e1]; exact inn_nI (by omega) (by decide)) ?_
            rw [e1, nI_clamp (show 120 * j + u < 2 ^ 31 by omega)]
            refine And.intro (sn_of (ha j u hj (by rw [he]; exact nI_lt hu (by omega)) (by omega))) ?_
            refine And.intro (by rw [e2]; exact inn_nI (by omega) (by decide)) ?_
            rw [e2, nI_clamp (show 120 * j + w < 2 ^ 31 by omega)]
            refine And.intro (sn_of (ha j w hj (by rw [he]; exact nI_lt hw (by omega)) (by omega))) ?_
            clear hK
            rcases cmp4 (I 89 (120 * j + u)) (I 89 (120 * j + w)) with ⟨z, hg, hl⟩ | ⟨z, hg, hl⟩ | ⟨z, hg, hl⟩ | ⟨z, hg, hl⟩
            all_goals (repeat' (first | (refine And.intro (fun h => absurd h (by first | (rw [hg]; decide) | (rw [hl]; decide))) (fun _ => ?_)) | (refine And.intro (fun _ => ?_) (fun h => absurd h (by first | (rw [hg]; decide) | (rw [hl]; decide)))) | fail))
            all_goals exact And.intro (by simp [z, nI_clamp (show u < 2 ^ 31 by omega), nI_clamp (show w < 2 ^ 31 by omega), c4, c5, h2]) (And.intro (by simp [c4, c5, h2]) rfl)
          · simp only [c5, if_true, if_false]
            refine And.intro (fun h => absurd h (by decide)) (fun _ => ?_)
            refine call_eq (c_M_fails g (d + 1) I D _) ?_
            exact And.intro (by simp [c4, c5, h2]) (And.intro (by first | (simp [c4, c5, h2]; done) | (simp [c4, c5, h2]; rfl)) (by first | rfl | simp [c4, c5, h2]))
        · simp only [c4, if_true, if_false]
          refine And.intro (fun _ => ?_) (fun h => absurd h (by decide))
          refine And.intro (fun h => absurd h (by decide)) (fun _ => ?_)
          refine call_eq (c_M_fails g (d + 1) I D _) ?_
          exact And.intro (by simp [c4, h2]) (And.intro (by first | (simp [c4, h2]; done) | (simp [c4, h2]; rfl)) (by first | rfl | simp [c4, h2]))
      · simp only [c3, if_false]
        refine And.intro (fun _ => ?_) (fun h => absurd h (by decide))
        refine And.intro (fun h => absurd h (by decide)) (fun _ => ?_)
        refine call_eq (c_M_fails g (d + 1) I D _) ?_
        exact And.intro (by simp [c3, h2]) (And.intro (by first | (simp [c3, h2]; done) | (simp [c3, h2]; rfl)) (by first | rfl | simp [c3, h2]))
    · exact And.intro (by simp [of_decide_eq_true (bI_n0.mp c2)]) (And.intro (by first | (simp [of_decide_eq_true (bI_n0.mp c2)]; done) | (simp [of_decide_eq_true (bI_n0.mp c2)]; rfl)) (by first | rfl | simp [of_decide_eq_true (bI_n0.mp c2)]))
  · exact And.intro (by simp [bI_0.mp c1]) (And.intro (by first | (simp [bI_0.mp c1]; done) | (simp [bI_0.mp c1]; rfl)) (by first | rfl | simp [bI_0.mp c1]))
theorem c_X_rule (w v : Int32) : Con g SHc (d + 1) 35 [.ref 0, .int w, .int v] I D (EqP (some (.int (if (decide (w = 0) && wi v 1 9) = true then I 3 10 else if (decide (w = 1) && wi v 1 48) = true then I 3 11 else if (decide (w = 2) && wi v 1 60) = true then I 5 7 else -2))) (if (decide (w = 0) && wi v 1 9) = true then up2 I 3 10 v else if (decide (w = 1) && wi v 1 48) = true then up2 I 3 11 v else if (decide (w = 2) && wi v 1 60) = true then up2 I 5 7 v else I) D) := by
  refine Con.mk (LV := v_X_rule) k_X_rule (Nat.le_of_ble_eq_true rfl) (fun K hK => ?_)
  refine hK (0, 103, o_X_rule_0) (List.mem_of_getElem? (i := 0) rfl) _ _ _ _ ?_
  clear hK
  repeat' (first | (refine And.intro (fun _ => ?_) (fun _ => ?_)) | (refine call_eq (c_X_isWithin g _ _ _ _ _ _) ?_) | (refine call_eq (c_X_isMoment g _ _ _ _) ?_) | (refine call_eq (c_X_isDay g _ _ _ _) ?_) | (refine call_eq (c_X_isMinute g _ _ _ _) ?_) | (refine call_eq (c_X_isStation g _ _ _ _) ?_) | (refine call_eq (c_X_isFleet g _ _ _ _) ?_) | (refine call_eq (c_X_isRoute g _ _ _ _) ?_) | (refine call_eq (c_X_isGauge g _ _ _ _) ?_) | (refine call_eq (c_X_isShoal g _ _ _ _) ?_) | (refine call_eq (c_X_isShip g _ _ _ _) ?_) | (refine call_eq (c_X_isPassage g _ _ _ _) ?_) | (refine call_eq (c_X_isShipOrNothing g _ _ _ _) ?_) | (refine call_eq (c_X_isPast g _ _ _ _) ?_) | (refine call_eq (c_X_isBed g _ _ _ _) ?_) | (refine call_eq (c_X_areSpent g _ _ _) ?_) | (refine call_eq (c_X_tell g _ _ _ _) ?_) | (refine call_eq (c_X_isNoFloat g _ _ _ _) ?_) | (refine call_eq (c_X_isMark g _ _ _ _) ?_) | (refine And.intro (fun _ => ?_) ?_) | intro _)
  all_goals (refine And.intro ?_ (And.intro ?_ ?_) <;> (first | rfl | (simp_all [bI_0, bI_n0]; done) | (simp_all [bI_0, bI_n0, i32_lt, i32_le] <;> omega)))
theorem c_M_rule (w v : Int32) : Con g SHc (d + 1) 176 [.ref 12, .int w, .int v] I D (EqP (some (.int (if (decide (w = 0) && wi v 1 9) = true then I 12 26 else if (decide (w = 1) && wi v 1 48) = true then I 12 27 else if (decide (w = 2) && wi v 1 60) = true then I 12 28 else -2))) (if (decide (w = 0) && wi v 1 9) = true then up2 I 12 26 v else if (decide (w = 1) && wi v 1 48) = true then up2 I 12 27 v else if (decide (w = 2) && wi v 1 60) = true then up2 I 12 28 v else I) D) := by
  refine Con.mk (LV := v_M_rule) k_M_rule (Nat.le_of_ble_eq_true rfl) (fun K hK => ?_)
  refine hK (0, 101, o_M_rule_0) (List.mem_of_getElem? (i := 0) rfl) _ _ _ _ ?_
  refine call_eq (c_M_in g d I D w 0 2) ?_
  refine And.intro (fun c1 => ?_) (fun c1 => ?_)
  · have h := bI_0.mp c1
    have h0 : ¬ w = 0 := by rintro rfl; revert h; decide
    have h1 : ¬ w = 1 := by rintro rfl; revert h; decide
    have h2 : ¬ w = 2 := by rintro rfl; revert h; decide
    exact And.intro (by simp [h0, h1, h2]) (And.intro (by first | (simp [h0, h1, h2]; done) | (simp [h0, h1, h2]; rfl)) (by first | rfl | simp [h0, h1, h2]))
  have h := wi_02.mp (bI_n0.mp c1)
  rcases h with rfl | rfl | rfl
  all_goals (clear hK; repeat' (first | (refine And.intro (fun h => absurd h (by decide)) (fun _ => ?_)) | (refine And.intro (fun _ => ?_) (fun h => absurd h (by decide))) | (refine And.intro (fun _ => ?_) (fun _ => ?_)) | (refine call_eq (c_M_in g _ _ _ _ _ _) ?_) | fail))
  all_goals (refine And.intro ?_ (And.intro ?_ ?_) <;> (first | rfl | (simp_all [bI_0, bI_n0]; done)))
theorem c_X_out (n : Nat) (hn : n ≤ 10) (hI : I 3 9 = nI n) (ga v : Int32) (hv : v = 0 ∨ v = 1) : Con g SHc (d + 1) 28 [.ref 0, .int ga, .int v] I D (EqP (some (.int (if ix ga (nI n) = true then (if I 25 ga.toNatClampNeg = v then 0 else 1) else -2))) (if ix ga (nI n) = true then (if I 25 ga.toNatClampNeg = v then I else up2 I 25 ga.toNatClampNeg v) else I) D) := by
  have hb : vp_nar .boolean v = v := by rcases hv with rfl | rfl <;> rfl
  refine Con.mk (LV := v_X_out) k_X_out (Nat.le_of_ble_eq_true rfl) (fun K hK => ?_)
  refine hK (0, 38, o_X_out_0) (List.mem_of_getElem? (i := 0) rfl) _ _ _ _ ?_
  refine call_eq (c_X_isGauge g d I D ga) ?_
  rw [hI]
  refine And.intro (fun c1 => ?_) (fun c1 => ?_)
  · have h1 : ix ga (nI n) = true := bI_n0.mp c1
    obtain ⟨j, hj, rfl⟩ := ix_nI (by omega) h1
    have hc : (nI j).toNatClampNeg = j := nI_clamp (by omega)
    have hi : inn (nI j) 10 := inn_nI (by omega) (by decide)
    rw [h1, hc]
    refine And.intro (hi) ?_
    rw [hc]
    refine And.intro (fun c2 => ?_) (fun c2 => ?_)
    · refine And.intro (hi) ?_
      rw [hc, hb]
      exact And.intro (by simp [c2]) (And.intro (by first | (simp [c2]; done) | (simp [c2]; rfl)) (by first | rfl | simp [c2]))
    · exact And.intro (by simp [c2]) (And.intro (by first | (simp [c2]; done) | (simp [c2]; rfl)) (by first | rfl | simp [c2]))
  · exact And.intro (by simp [bI_0.mp c1, ix]) (And.intro (by first | (simp [bI_0.mp c1, ix]; done) | (simp [bI_0.mp c1, ix]; rfl)) (by first | rfl | simp [bI_0.mp c1, ix]))
theorem c_M_out (n : Nat) (hn : n ≤ 10) (hI : I 12 18 = nI n) (ga v : Int32) (hv : v = 0 ∨ v = 1) : Con g SHc (d + 2) 171 [.ref 12, .int ga, .int v] I D (EqP (some (.int (if ix ga (nI n) = true then (if I 86 ga.toNatClampNeg = v then 0 else 1) else -2))) (if ix ga (nI n) = true then up2 I 86 ga.toNatClampNeg v else I) D) := by
  have hb : vp_nar .boolean v = v := by rcases hv with rfl | rfl <;> rfl
  refine Con.mk (LV := v_M_out) k_M_out (Nat.le_of_ble_eq_true rfl) (fun K hK => ?_)
  refine hK (0, 36, o_M_out_0) (List.mem_of_getElem? (i := 0) rfl) _ _ _ _ ?_
  refine call_eq (c_M_isGauge g d I D ga) ?_
  rw [hI, ix_wi (by omega)]
  refine And.intro (fun c1 => ?_) (fun c1 => ?_)
  · have h1 : ix ga (nI n) = true := bI_n0.mp c1
    obtain ⟨j, hj, rfl⟩ := ix_nI (by omega) h1
    have hc : (nI j).toNatClampNeg = j := nI_clamp (by omega)
    have hi : inn (nI j) 10 := inn_nI (by omega) (by decide)
    rw [h1, hc]
    refine And.intro (hi) ?_
    rw [hc]
    refine And.intro (hi) ?_
    rw [hc, hb]
    refine And.intro (fun c2 => ?_) (fun c2 => ?_)
    · exact And.intro (by simp [c2]) (And.intro (by first | (simp [c2]; done) | (simp [c2]; rfl)) (by first | rfl | simp [c2]))
    · exact And.intro (by simp [c2]) (And.intro (by first | (simp [c2]; done) | (simp [c2]; rfl)) (by first | rfl | simp [c2]))
  · exact And.intro (by simp [bI_0.mp c1]) (And.intro (by first | (simp [bI_0.mp c1]; done) | (simp [bI_0.mp c1]; rfl)) (by first | rfl | simp [bI_0.mp c1]))
theorem c_X_force (n : Nat) (hn : n ≤ 60) (hI : I 2 9 = nI n) (s t k : Int32) : Con g SHc (d + 1) 20 [.ref 0, .int s, .int t, .int k] I D (EqP (some (.int (if (wi s 0 11 && wi t 0 2591999 && wi k 0 (I 0 11)) = true then (if 3000 ≤ I 1 0 then -4 else if ifF (I 16) (I 17) (I 18) s t k n = -1 then -11 else I 17 (ifF (I 16) (I 17) (I 18) s t k n).toNatClampNeg) else -2))) (if (wi s 0 11 && wi t 0 2591999 && wi k 0 (I 0 11)) = true then (if 3000 ≤ I 1 0 then I else if ifF (I 16) (I 17) (I 18) s t k n = -1 then tellX 1 I else I) else I) D) := by
  refine Con.mk (LV := v_X_force) k_X_force (Nat.le_of_ble_eq_true rfl) (fun K hK => ?_)
  refine hK (0, 78, o_X_force_0) (List.mem_of_getElem? (i := 0) rfl) _ _ _ _ ?_
  refine call_eq (c_X_isStation g d I D s) ?_
  refine And.intro (fun c1 => ?_) (fun c1 => ?_)
  · exact And.intro (by simp [bI_0.mp c1]) (And.intro (by first | (simp [bI_0.mp c1]; done) | (simp [bI_0.mp c1]; rfl)) (by first | rfl | simp [bI_0.mp c1]))
  refine call_eq (c_X_isMoment g d I D t) ?_
  refine And.intro (fun c2 => ?_) (fun c2 => ?_)
  · exact And.intro (by simp [bI_0.mp c2]) (And.intro (by first | (simp [bI_0.mp c2]; done) | (simp [bI_0.mp c2]; rfl)) (by first | rfl | simp [bI_0.mp c2]))
  refine call_eq (c_X_isPast g d I D k) ?_
  have h1 := bI_n0.mp c1
  have h2 := bI_n0.mp c2
  refine And.intro (fun c3 => ?_) (fun c3 => ?_)
  · have h3 := bI_n0.mp c3
    refine call_eq (c_X_areSpent g d I D) ?_
    refine And.intro (fun c4 => ?_) (fun c4 => ?_)
    · have h4 : ¬ 3000 ≤ I 1 0 := of_decide_eq_false (bI_0.mp c4)
      refine call_eq (c_X_inForce g d I D s t k n hn hI) ?_
      rcases ifF_in (I 16) (I 17) (I 18) s t k n with h | ⟨j, hj, h⟩
      · rw [h]
        refine And.intro (fun z => absurd rfl z) (fun _ => ?_)
        refine call_eq (c_X_tell g d I D 1) ?_
        exact And.intro (by simp [h1, h2, h3, h4]) (And.intro (by first | (simp [h1, h2, h3, h4]; done) | (simp [h1, h2, h3, h4]; rfl)) (by first | rfl | simp [h1, h2, h3, h4]))
      · rw [h]
        refine And.intro (fun _ => ?_) (fun z => absurd z (nI_neg1 (by omega)))
        refine And.intro (inn_nI (by omega) (by decide)) ?_
        exact And.intro (by simp [h1, h2, h3, h4, nI_neg1 (show j < 2 ^ 31 by omega)]) (And.intro (by first | (simp [h1, h2, h3, h4, nI_neg1 (show j < 2 ^ 31 by omega)]; done) | (simp [h1, h2, h3, h4, nI_neg1 (show j < 2 ^ 31 by omega)]; rfl)) (by first | rfl | simp [h1, h2, h3, h4, nI_neg1 (show j < 2 ^ 31 by omega)]))
    · exact And.intro (by simp [h1, h2, h3, of_decide_eq_true (bI_n0.mp c4)]) (And.intro (by first | (simp [h1, h2, h3, of_decide_eq_true (bI_n0.mp c4)]; done) | (simp [h1, h2, h3, of_decide_eq_true (bI_n0.mp c4)]; rfl)) (by first | rfl | simp [h1, h2, h3, of_decide_eq_true (bI_n0.mp c4)]))
  · exact And.intro (by simp [bI_0.mp c3]) (And.intro (by first | (simp [bI_0.mp c3]; done) | (simp [bI_0.mp c3]; rfl)) (by first | rfl | simp [bI_0.mp c3]))
theorem c_M_force (n : Nat) (hn : n ≤ 60) (hI : I 12 8 = nI n) (s t k : Int32) : Con g SHc (d + 3) 165 [.ref 12, .int s, .int t, .int k] I D (EqP (some (.int (if (wi s 0 11 && wi t 0 2591999 && wi k 0 (I 12 0)) = true then (if 3000 ≤ I 12 2 then -4 else if ifF (I 75) (I 76) (I 77) s t k n = -1 then -11 else I 76 (ifF (I 75) (I 76) (I 77) s t k n).toNatClampNeg) else -2))) (if (wi s 0 11 && wi t 0 2591999 && wi k 0 (I 12 0)) = true then (if 3000 ≤ I 12 2 then I else if ifF (I 75) (I 76) (I 77) s t k n = -1 then tellM 1 I else I) else I) D) := by
  refine Con.mk (LV := v_M_force) k_M_force (Nat.le_of_ble_eq_true rfl) (fun K hK => ?_)
  refine hK (0, 60, o_M_force_0) (List.mem_of_getElem? (i := 0) rfl) _ _ _ _ ?_
  refine call_eq (c_M_isStation g (d + 1) I D s) ?_
  refine And.intro (fun c1 => ?_) (fun c1 => ?_)
  · exact And.intro (by simp [bI_0.mp c1]) (And.intro (by first | (simp [bI_0.mp c1]; done) | (simp [bI_0.mp c1]; rfl)) (by first | rfl | simp [bI_0.mp c1]))
  refine call_eq (c_M_isKnowing g d I D t k) ?_
  have h1 := bI_n0.mp c1
  refine And.intro (fun c2 => ?_) (fun c2 => ?_)
  · have h23 := bI_n0.mp c2
    have h2 := (Bool.and_eq_true _ _ ▸ h23 : wi t 0 2591999 = true ∧ wi k 0 (I 12 0) = true).1
    have h3 := (Bool.and_eq_true _ _ ▸ h23 : wi t 0 2591999 = true ∧ wi k 0 (I 12 0) = true).2
    refine call_eq (c_M_isFull g (d + 2) I D) ?_
    refine And.intro (fun c4 => ?_) (fun c4 => ?_)
    · have h4 : ¬ 3000 ≤ I 12 2 := of_decide_eq_false (bI_0.mp c4)
      refine call_eq (c_M_inForce g (d + 2) I D s t k n hn hI) ?_
      rcases ifF_in (I 75) (I 76) (I 77) s t k n with h | ⟨j, hj, h⟩
      · rw [h]
        refine And.intro (fun z => absurd rfl z) (fun _ => ?_)
        refine call_eq (c_M_fails g (d + 2) I D 1) ?_
        exact And.intro (by simp [h1, h2, h3, h4]) (And.intro (by first | (simp [h1, h2, h3, h4]; done) | (simp [h1, h2, h3, h4]; rfl)) (by first | rfl | simp [h1, h2, h3, h4]))
      · rw [h]
        refine And.intro (fun _ => ?_) (fun z => absurd z (nI_neg1 (by omega)))
        refine And.intro (inn_nI (by omega) (by decide)) ?_
        exact And.intro (by simp [h1, h2, h3, h4, nI_neg1 (show j < 2 ^ 31 by omega)]) (And.intro (by first | (simp [h1, h2, h3, h4, nI_neg1 (show j < 2 ^ 31 by omega)]; done) | (simp [h1, h2, h3, h4, nI_neg1 (show j < 2 ^ 31 by omega)]; rfl)) (by first | rfl | simp [h1, h2, h3, h4, nI_neg1 (show j < 2 ^ 31 by omega)]))
    · exact And.intro (by simp [h1, h2, h3, of_decide_eq_true (bI_n0.mp c4)]) (And.intro (by first | (simp [h1, h2, h3, of_decide_eq_true (bI_n0.mp c4)]; done) | (simp [h1, h2, h3, of_decide_eq_true (bI_n0.mp c4)]; rfl)) (by first | rfl | simp [h1, h2, h3, of_decide_eq_true (bI_n0.mp c4)]))
  · exact And.intro (by simp [Bool.and_assoc, bI_0.mp c2]) (And.intro (by first | (simp [Bool.and_assoc, bI_0.mp c2]; done) | (simp [Bool.and_assoc, bI_0.mp c2]; rfl)) (by first | rfl | simp [Bool.and_assoc, bI_0.mp c2]))
end S32
