/-! clock, mean, wave, survey, force: the class -/
theorem wi_nI {v : Int32} {m : Nat} (hm : m < 2 ^ 31) (h : wi v 0 (nI m) = true) : ∃ j, j ≤ m ∧ v = nI j := by
  unfold wi at h
  simp only [Bool.and_eq_true, decide_eq_true_eq] at h
  obtain ⟨j, h1, h2⟩ := nI_of (x := v) (by rw [i32_nlt]; exact h.1)
  refine ⟨j, ?_, h2⟩
  rw [h2] at h
  exact (nI_leI h1 hm).mp h.2
theorem nI_le_c {a b : Nat} (h : a ≤ b) (hb : b < 2 ^ 31) : nI a ≤ nI b := nI_le h hb
section S24
variable (g : Gp) (d : Nat) (I : MI) (D : MD)
theorem c_X_clock (t : Int32) : Con g SHc (d + 1) 0 [.ref 0, .int t] I D (EqP (some (.int (if (wi t 0 2591999 && decide (I 0 11 ≤ t)) = true then 1 else -2))) (if (wi t 0 2591999 && decide (I 0 11 ≤ t)) = true then up2 I 0 11 t else I) D) := by
  refine Con.mk (LV := v_X_clock) k_X_clock (Nat.le_of_ble_eq_true rfl) (fun K hK => ?_)
  refine hK (0, 25, o_X_clock_0) (List.mem_of_getElem? (i := 0) rfl) _ _ _ _ ?_
  refine call_eq (c_X_isMoment g d I D t) ?_
  refine And.intro (fun c1 => ?_) (fun c1 => ?_)
  · exact And.intro (by simp [bI_0.mp c1]) (And.intro (by simp [bI_0.mp c1]) (by first | rfl | simp [bI_0.mp c1]))
  refine And.intro (fun c2 => ?_) (fun c2 => ?_)
  · exact And.intro (by simp [bI_n0.mp c1, c2]) (And.intro (by simp [bI_n0.mp c1, c2]) (by first | rfl | simp [bI_n0.mp c1, c2]))
  · exact And.intro (by simp [bI_n0.mp c1, c2]) (And.intro (by simp [bI_n0.mp c1, c2]) (by first | rfl | simp [bI_n0.mp c1, c2]))
theorem c_M_clock (t : Int32) : Con g SHc (d + 2) 148 [.ref 12, .int t] I D (EqP (some (.int (if (wi t 0 2591999 && decide (I 12 0 ≤ t)) = true then 1 else -2))) (if (wi t 0 2591999 && decide (I 12 0 ≤ t)) = true then up2 I 12 0 t else I) D) := by
  refine Con.mk (LV := v_M_clock) k_M_clock (Nat.le_of_ble_eq_true rfl) (fun K hK => ?_)
  refine hK (0, 25, o_M_clock_0) (List.mem_of_getElem? (i := 0) rfl) _ _ _ _ ?_
  refine call_eq (c_M_isMoment g d I D t) ?_
  refine And.intro (fun c1 => ?_) (fun c1 => ?_)
  · exact And.intro (by simp [bI_0.mp c1]) (And.intro (by simp [bI_0.mp c1]) (by first | rfl | simp [bI_0.mp c1]))
  refine And.intro (fun c2 => ?_) (fun c2 => ?_)
  · exact And.intro (by simp [bI_n0.mp c1, c2]) (And.intro (by simp [bI_n0.mp c1, c2]) (by first | rfl | simp [bI_n0.mp c1, c2]))
  · exact And.intro (by simp [bI_n0.mp c1, c2]) (And.intro (by simp [bI_n0.mp c1, c2]) (by first | rfl | simp [bI_n0.mp c1, c2]))
theorem c_X_changeMean (s : Nat) (hs : s < 12) (v : Int32) : Con g SHc d 5 [.ref 2, .int (nI s), .int v] I D (EqP (some (.int (I 13 s))) (up2 I 13 s v) D) := by
  have hc : (nI s).toNatClampNeg = s := nI_clamp (by omega)
  have hi : inn (nI s) 12 := inn_nI hs (by decide)
  refine Con.mk (LV := v_Surveys_changeMean) k_Surveys_changeMean (Nat.le_of_ble_eq_true rfl) (fun K hK => ?_)
  refine hK (0, 16, o_Surveys_changeMean_0) (List.mem_of_getElem? (i := 0) rfl) _ _ _ _ ?_
  refine And.intro (hi) ?_
  refine And.intro (hi) ?_
  rw [hc]
  exact And.intro rfl (And.intro rfl rfl)
theorem c_X_mean (s v : Int32) : Con g SHc (d + 1) 2 [.ref 0, .int s, .int v] I D (EqP (some (.int (if (wi s 0 11 && wi v (-2000) 2000) = true then I 13 s.toNatClampNeg else -100000))) (if (wi s 0 11 && wi v (-2000) 2000) = true then up2 I 13 s.toNatClampNeg v else I) D) := by
  refine Con.mk (LV := v_X_mean) k_X_mean (Nat.le_of_ble_eq_true rfl) (fun K hK => ?_)
  refine hK (0, 33, o_X_mean_0) (List.mem_of_getElem? (i := 0) rfl) _ _ _ _ ?_
  refine call_eq (c_X_isStation g d I D s) ?_
  refine And.intro (fun c1 => ?_) (fun c1 => ?_)
  · exact And.intro (by simp [bI_0.mp c1]) (And.intro (by simp [bI_0.mp c1]) (by first | rfl | simp [bI_0.mp c1]))
  refine call_eq (c_X_isWithin g d I D v (-2000) 2000) ?_
  have h1 := bI_n0.mp c1
  refine And.intro (fun c2 => ?_) (fun c2 => ?_)
  · have h2 := bI_n0.mp c2
    obtain ⟨j, hj, rfl⟩ := wi_nI (m := 11) (by decide) h1
    refine call_eq (c_X_changeMean g d I D j (by omega) v) ?_
    exact And.intro (by simp [h1, h2, nI_clamp (show j < 2 ^ 31 by omega)]) (And.intro (by simp [h1, h2, nI_clamp (show j < 2 ^ 31 by omega)]) (by first | rfl | simp [h1, h2, nI_clamp (show j < 2 ^ 31 by omega)]))
  · exact And.intro (by simp [bI_0.mp c2]) (And.intro (by simp [bI_0.mp c2]) (by first | rfl | simp [bI_0.mp c2]))
theorem c_M_mean (s v : Int32) : Con g SHc (d + 2) 151 [.ref 12, .int s, .int v] I D (EqP (some (.int (if (wi s 0 11 && wi v (-2000) 2000) = true then I 70 s.toNatClampNeg else -100000))) (if (wi s 0 11 && wi v (-2000) 2000) = true then up2 I 70 s.toNatClampNeg v else I) D) := by
  refine Con.mk (LV := v_M_mean) k_M_mean (Nat.le_of_ble_eq_true rfl) (fun K hK => ?_)
  refine hK (0, 39, o_M_mean_0) (List.mem_of_getElem? (i := 0) rfl) _ _ _ _ ?_
  refine call_eq (c_M_isStation g d I D s) ?_
  refine And.intro (fun c1 => ?_) (fun c1 => ?_)
  · exact And.intro (by simp [bI_0.mp c1]) (And.intro (by simp [bI_0.mp c1]) (by first | rfl | simp [bI_0.mp c1]))
  refine call_eq (c_M_in g (d + 1) I D v (-2000) 2000) ?_
  have h1 := bI_n0.mp c1
  refine And.intro (fun c2 => ?_) (fun c2 => ?_)
  · have h2 := bI_n0.mp c2
    obtain ⟨j, hj, rfl⟩ := wi_nI (m := 11) (by decide) h1
    refine And.intro (inn_nI (by omega) (by decide)) ?_
    refine And.intro (inn_nI (by omega) (by decide)) ?_
    exact And.intro (by simp [h1, h2, nI_clamp (show j < 2 ^ 31 by omega)]) (And.intro (by simp [h1, h2, nI_clamp (show j < 2 ^ 31 by omega)]) (by first | rfl | simp [h1, h2, nI_clamp (show j < 2 ^ 31 by omega)]))
  · exact And.intro (by simp [bI_0.mp c2]) (And.intro (by simp [bI_0.mp c2]) (by first | rfl | simp [bI_0.mp c2]))
/-- a WAVE more of a DRAFT that has n -/
def wvX (I : MI) (s n : Nat) (a b c : Int32) : MI := up2 (up2 (up2 (up2 I 15 (24 * s + 3 * n) a) 15 (24 * s + 3 * n + 1) b) 15 (24 * s + 3 * n + 2) c) 14 s (nI (n + 1))
def wvM (I : MI) (s n : Nat) (a b c : Int32) : MI := up2 (up2 (up2 (up2 I 72 (8 * s + n) a) 73 (8 * s + n) b) 74 (8 * s + n) c) 71 s (nI (n + 1))
theorem c_X_addWave (s n : Nat) (hs : s < 12) (hn : n ≤ 8) (hI : I 14 s = nI n) (a b c : Int32) : Con g SHc d 7 [.ref 2, .int (nI s), .int a, .int b, .int c] I D (EqP (some (.int (if n < 8 then nI (n + 1) else -4))) (if n < 8 then wvX I s n a b c else I) D) := by
  have hc : (nI s).toNatClampNeg = s := nI_clamp (by omega)
  have hi : inn (nI s) 12 := inn_nI hs (by decide)
  refine Con.mk (LV := v_Surveys_addWave) k_Surveys_addWave (Nat.le_of_ble_eq_true rfl) (fun K hK => ?_)
  refine hK (0, 75, o_Surveys_addWave_0) (List.mem_of_getElem? (i := 0) rfl) _ _ _ _ ?_
  refine And.intro (hi) ?_
  rw [hc, hI]
  refine And.intro (fun c1 => ?_) (fun c1 => ?_)
  · have c1 : n < 8 := (nI_ltI (by omega) (by decide)).mp c1
    rw [if_pos c1, if_pos c1]
    refine And.intro (hi) ?_
    have e1 : nI s * 24 + nI n * 3 = nI (24 * s + 3 * n) := nI_lin 24 s 3 n
    have e2 : nI (24 * s + 3 * n) + 2 = nI (24 * s + 3 * n + 2) := nI_add _ 2
    have e3 : nI (24 * s + 3 * n) + 1 = nI (24 * s + 3 * n + 1) := nI_add _ 1
    rw [hc, hI]
    refine And.intro (by rw [e1]; exact inn_nI (by omega) (by decide)) ?_
    rw [e1]
    refine And.intro (by rw [e3]; exact inn_nI (by omega) (by decide)) ?_
    rw [e3]
    refine And.intro (by rw [e2]; exact inn_nI (by omega) (by decide)) ?_
    rw [e2, nI_clamp (show 24 * s + 3 * n < 2 ^ 31 by omega), nI_clamp (show 24 * s + 3 * n + 1 < 2 ^ 31 by omega), nI_clamp (show 24 * s + 3 * n + 2 < 2 ^ 31 by omega)]
    refine And.intro (hi) ?_
    refine And.intro (hi) ?_
    refine And.intro (hi) ?_
    rw [hc]
    have e5 : ∀ z : MI, z 14 s = nI n → z 14 s + 1 = nI (n + 1) := fun z h => by rw [h]; exact nI_1 n
    refine And.intro ?_ (And.intro ?_ rfl)
    · rw [up2_at]
      exact congrArg (fun z => some (Value.int z)) (e5 I hI)
    · unfold wvX
      congr 1
      exact e5 I hI
  · have c1 : ¬ n < 8 := fun h => c1 ((nI_ltI (by omega) (by decide)).mpr h)
    rw [if_neg c1, if_neg c1]
    exact And.intro rfl (And.intro rfl rfl)
end S24
