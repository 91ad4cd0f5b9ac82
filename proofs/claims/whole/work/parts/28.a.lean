theorem wi_01 {v : Int32} : wi v 0 1 = true ↔ v = 0 ∨ v = 1 := by
  constructor
  · intro h
    obtain ⟨j, hj, rfl⟩ := wi_nI (m := 1) (by decide) h
    rcases (show j = 0 ∨ j = 1 by omega) with rfl | rfl
    · exact Or.inl rfl
    · exact Or.inr rfl
  · rintro (rfl | rfl) <;> decide
theorem wi_01f {v : Int32} : wi v 0 1 = false ↔ ¬ v = 0 ∧ ¬ v = 1 := by
  rw [← Bool.not_eq_true, wi_01, not_or]
theorem wi_02 {v : Int32} : wi v 0 2 = true ↔ v = 0 ∨ v = 1 ∨ v = 2 := by
  constructor
  · intro h
    obtain ⟨j, hj, rfl⟩ := wi_nI (m := 2) (by decide) h
    rcases (show j = 0 ∨ j = 1 ∨ j = 2 by omega) with rfl | rfl | rfl
    · exact Or.inl rfl
    · exact Or.inr (Or.inl rfl)
    · exact Or.inr (Or.inr rfl)
  · rintro (rfl | rfl | rfl) <;> decide
def dgF (st : Nat → Int32) : Nat → Int32
  | 0 => 7
  | n + 1 => 31 * dgF st n + st n
section S28
variable (g : Gp) (d : Nat) (I : MI) (D : MD)
theorem c_X_wrong (v : Int32) : Con g SHc (d + 1) 123 [.ref 0, .int v] I D (EqP (some (.int (if v = 0 then I 10 3 else if v = 1 then I 10 4 else -2))) I D) := by
  refine Con.mk (LV := v_X_wrong) k_X_wrong (Nat.le_of_ble_eq_true rfl) (fun K hK => ?_)
  refine hK (0, 34, o_X_wrong_0) (List.mem_of_getElem? (i := 0) rfl) _ _ _ _ ?_
  clear hK
  repeat' (first | (refine And.intro (fun _ => ?_) (fun _ => ?_)) | (refine call_eq (c_X_isWithin g _ _ _ _ _ _) ?_) | (refine call_eq (c_X_isMoment g _ _ _ _) ?_) | (refine call_eq (c_X_isDay g _ _ _ _) ?_) | (refine call_eq (c_X_isMinute g _ _ _ _) ?_) | (refine call_eq (c_X_isStation g _ _ _ _) ?_) | (refine call_eq (c_X_isFleet g _ _ _ _) ?_) | (refine call_eq (c_X_isRoute g _ _ _ _) ?_) | (refine call_eq (c_X_isGauge g _ _ _ _) ?_) | (refine call_eq (c_X_isShoal g _ _ _ _) ?_) | (refine call_eq (c_X_isShip g _ _ _ _) ?_) | (refine call_eq (c_X_isPassage g _ _ _ _) ?_) | (refine call_eq (c_X_isShipOrNothing g _ _ _ _) ?_) | (refine call_eq (c_X_isPast g _ _ _ _) ?_) | (refine call_eq (c_X_isBed g _ _ _ _) ?_) | (refine call_eq (c_X_areSpent g _ _ _) ?_) | (refine call_eq (c_X_tell g _ _ _ _) ?_) | (refine call_eq (c_X_isNoFloat g _ _ _ _) ?_) | (refine call_eq (c_X_isMark g _ _ _ _) ?_) | (refine And.intro (fun _ => ?_) ?_) | intro _)
  all_goals (refine And.intro ?_ (And.intro ?_ ?_) <;> (first | rfl | (simp_all [bI_0, bI_n0, wi_01, wi_01f]; done) | (simp_all [bI_0, bI_n0, i32_lt, i32_le, wi_01, wi_01f] <;> omega)))
theorem c_M_wrong (v : Int32) : Con g SHc (d) 236 [.ref 12, .int v] I D (EqP (some (.int (if v = 0 then I 12 76 else if v = 1 then I 12 77 else -2))) I D) := by
  refine Con.mk (LV := v_M_wrong) k_M_wrong (Nat.le_of_ble_eq_true rfl) (fun K hK => ?_)
  refine hK (0, 26, o_M_wrong_0) (List.mem_of_getElem? (i := 0) rfl) _ _ _ _ ?_
  clear hK
  repeat' (first | (refine And.intro (fun _ => ?_) (fun _ => ?_)) | (refine call_eq (c_M_in g _ _ _ _ _ _) ?_) | (refine call_eq (c_M_isMoment g _ _ _ _) ?_) | (refine call_eq (c_M_isMinute g _ _ _ _) ?_) | (refine call_eq (c_M_isStation g _ _ _ _) ?_) | (refine call_eq (c_M_isFleet g _ _ _ _) ?_) | (refine call_eq (c_M_isRoute g _ _ _ _) ?_) | (refine call_eq (c_M_isGauge g _ _ _ _) ?_) | (refine call_eq (c_M_isShoal g _ _ _ _) ?_) | (refine call_eq (c_M_isShip g _ _ _ _) ?_) | (refine call_eq (c_M_isPassage g _ _ _ _) ?_) | (refine call_eq (c_M_isPart g _ _ _ _) ?_) | (refine call_eq (c_M_isKnowing g _ _ _ _ _) ?_) | (refine call_eq (c_M_isFull g _ _ _) ?_) | (refine call_eq (c_M_fails g _ _ _ _) ?_) | (refine call_eq (c_M_isNoFloat g _ _ _ _) ?_) | (refine And.intro (fun _ => ?_) ?_) | intro _)
  all_goals (refine And.intro ?_ (And.intro ?_ ?_) <;> (first | rfl | (simp_all [bI_0, bI_n0]; done) | (simp_all [bI_0, bI_n0, i32_lt, i32_le] <;> omega)))
theorem c_X_held (v : Int32) : Con g SHc (d + 1) 144 [.ref 0, .int v] I D (EqP (some (.int (if v = 0 then I 11 15 else if v = 1 then I 11 16 else -2))) I D) := by
  refine Con.mk (LV := v_X_held) k_X_held (Nat.le_of_ble_eq_true rfl) (fun K hK => ?_)
  refine hK (0, 34, o_X_held_0) (List.mem_of_getElem? (i := 0) rfl) _ _ _ _ ?_
  clear hK
  repeat' (first | (refine And.intro (fun _ => ?_) (fun _ => ?_)) | (refine call_eq (c_X_isWithin g _ _ _ _ _ _) ?_) | (refine call_eq (c_X_isMoment g _ _ _ _) ?_) | (refine call_eq (c_X_isDay g _ _ _ _) ?_) | (refine call_eq (c_X_isMinute g _ _ _ _) ?_) | (refine call_eq (c_X_isStation g _ _ _ _) ?_) | (refine call_eq (c_X_isFleet g _ _ _ _) ?_) | (refine call_eq (c_X_isRoute g _ _ _ _) ?_) | (refine call_eq (c_X_isGauge g _ _ _ _) ?_) | (refine call_eq (c_X_isShoal g _ _ _ _) ?_) | (refine call_eq (c_X_isShip g _ _ _ _) ?_) | (refine call_eq (c_X_isPassage g _ _ _ _) ?_) | (refine call_eq (c_X_isShipOrNothing g _ _ _ _) ?_) | (refine call_eq (c_X_isPast g _ _ _ _) ?_) | (refine call_eq (c_X_isBed g _ _ _ _) ?_) | (refine call_eq (c_X_areSpent g _ _ _) ?_) | (refine call_eq (c_X_tell g _ _ _ _) ?_) | (refine call_eq (c_X_isNoFloat g _ _ _ _) ?_) | (refine call_eq (c_X_isMark g _ _ _ _) ?_) | (refine And.intro (fun _ => ?_) ?_) | intro _)
  all_goals (refine And.intro ?_ (And.intro ?_ ?_) <;> (first | rfl | (simp_all [bI_0, bI_n0, wi_01, wi_01f]; done) | (simp_all [bI_0, bI_n0, i32_lt, i32_le, wi_01, wi_01f] <;> omega)))
theorem c_M_held (v : Int32) : Con g SHc d 250 [.ref 12, .int v] I D (EqP (some (.int (if v = 0 then 0 else if v = 1 then I 12 89 else -2))) I D) := by
  refine Con.mk (LV := v_M_held) k_M_held (Nat.le_of_ble_eq_true rfl) (fun K hK => ?_)
  refine hK (0, 23, o_M_held_0) (List.mem_of_getElem? (i := 0) rfl) _ _ _ _ ?_
  clear hK
  repeat' (first | (refine And.intro (fun _ => ?_) (fun _ => ?_)) | (refine call_eq (c_M_in g _ _ _ _ _ _) ?_) | (refine call_eq (c_M_isMoment g _ _ _ _) ?_) | (refine call_eq (c_M_isMinute g _ _ _ _) ?_) | (refine call_eq (c_M_isStation g _ _ _ _) ?_) | (refine call_eq (c_M_isFleet g _ _ _ _) ?_) | (refine call_eq (c_M_isRoute g _ _ _ _) ?_) | (refine call_eq (c_M_isGauge g _ _ _ _) ?_) | (refine call_eq (c_M_isShoal g _ _ _ _) ?_) | (refine call_eq (c_M_isShip g _ _ _ _) ?_) | (refine call_eq (c_M_isPassage g _ _ _ _) ?_) | (refine call_eq (c_M_isPart g _ _ _ _) ?_) | (refine call_eq (c_M_isKnowing g _ _ _ _ _) ?_) | (refine call_eq (c_M_isFull g _ _ _) ?_) | (refine call_eq (c_M_fails g _ _ _ _) ?_) | (refine call_eq (c_M_isNoFloat g _ _ _ _) ?_) | (refine And.intro (fun _ => ?_) ?_) | intro _)
  all_goals (refine And.intro ?_ (And.intro ?_ ?_) <;> (first | rfl | (simp_all [bI_0, bI_n0]; done) | (simp_all [bI_0, bI_n0, i32_lt, i32_le] <;> omega)))
theorem c_X_count (v : Int32) : Con g SHc (d) 145 [.ref 0, .int v] I D (EqP (some (.int (if v.toInt = 0 then I 0 11 else if v.toInt = 1 then I 2 9 else if v.toInt = 2 then I 3 9 else if v.toInt = 3 then I 4 8 else if v.toInt = 4 then I 4 9 else if v.toInt = 5 then I 6 9 else if v.toInt = 6 then I 11 13 else if v.toInt = 7 then I 10 2 else if v.toInt = 8 then I 1 0 else -2))) I D) := by
  refine Con.mk (LV := v_X_count) k_X_count (Nat.le_of_ble_eq_true rfl) (fun K hK => ?_)
  refine hK (0, 124, o_X_count_0) (List.mem_of_getElem? (i := 0) rfl) _ _ _ _ ?_
  clear hK
  repeat' (first | (refine And.intro (fun _ => ?_) ?_) | intro _)
  all_goals (refine And.intro ?_ (And.intro ?_ ?_) <;> (first | rfl | (simp_all; done) | (repeat (rw [if_neg (by omega)])) | (rw [if_pos (by omega)])))
theorem c_M_count (v : Int32) : Con g SHc (d) 251 [.ref 12, .int v] I D (EqP (some (.int (if v.toInt = 0 then I 12 0 else if v.toInt = 1 then I 12 8 else if v.toInt = 2 then I 12 18 else if v.toInt = 3 then I 12 33 else if v.toInt = 4 then I 12 36 else if v.toInt = 5 then I 12 49 else if v.toInt = 6 then I 12 78 else if v.toInt = 7 then I 12 73 else if v.toInt = 8 then I 12 2 else -2))) I D) := by
  refine Con.mk (LV := v_M_count) k_M_count (Nat.le_of_ble_eq_true rfl) (fun K hK => ?_)
  refine hK (0, 100, o_M_count_0) (List.mem_of_getElem? (i := 0) rfl) _ _ _ _ ?_
  clear hK
  repeat' (first | (refine And.intro (fun _ => ?_) ?_) | intro _)
  all_goals (refine And.intro ?_ (And.intro ?_ ?_) <;> (first | rfl | (simp_all; done) | (repeat (rw [if_neg (by omega)])) | (rw [if_pos (by omega)])))
theorem c_X_finding  : Con g SHc (d) 146 [.ref 0] I D (EqP (some (.int (I 1 1))) I D) := by
  refine Con.mk (LV := v_X_finding) k_X_finding (Nat.le_of_ble_eq_true rfl) (fun K hK => ?_)
  refine hK (0, 8, o_X_finding_0) (List.mem_of_getElem? (i := 0) rfl) _ _ _ _ ?_
  exact And.intro rfl (And.intro rfl rfl)
theorem c_M_finding  : Con g SHc (d) 252 [.ref 12] I D (EqP (some (.int (I 12 1))) I D) := by
  refine Con.mk (LV := v_M_finding) k_M_finding (Nat.le_of_ble_eq_true rfl) (fun K hK => ?_)
  refine hK (0, 5, o_M_finding_0) (List.mem_of_getElem? (i := 0) rfl) _ _ _ _ ?_
  exact And.intro rfl (And.intro rfl rfl)
theorem c_X_tries  : Con g SHc (d) 143 [.ref 0] I D (EqP (some (.int (I 11 14))) I D) := by
  refine Con.mk (LV := v_X_tries) k_X_tries (Nat.le_of_ble_eq_true rfl) (fun K hK => ?_)
  refine hK (0, 8, o_X_tries_0) (List.mem_of_getElem? (i := 0) rfl) _ _ _ _ ?_
  exact And.intro rfl (And.intro rfl rfl)
theorem c_M_tries  : Con g SHc (d) 249 [.ref 12] I D (EqP (some (.int (I 12 88))) I D) := by
  refine Con.mk (LV := v_M_tries) k_M_tries (Nat.le_of_ble_eq_true rfl) (fun K hK => ?_)
  refine hK (0, 5, o_M_tries_0) (List.mem_of_getElem? (i := 0) rfl) _ _ _ _ ?_
  exact And.intro rfl (And.intro rfl rfl)
theorem c_X_asked  : Con g SHc (d) 89 [.ref 0] I D (EqP (some (.int (I 0 12))) I D) := by
  refine Con.mk (LV := v_X_asked) k_X_asked (Nat.le_of_ble_eq_true rfl) (fun K hK => ?_)
  refine hK (0, 5, o_X_asked_0) (List.mem_of_getElem? (i := 0) rfl) _ _ _ _ ?_
  exact And.intro rfl (And.intro rfl rfl)
theorem c_M_asked  : Con g SHc (d) 211 [.ref 12] I D (EqP (some (.int (I 12 56))) I D) := by
  refine Con.mk (LV := v_M_asked) k_M_asked (Nat.le_of_ble_eq_true rfl) (fun K hK => ?_)
  refine hK (0, 5, o_M_asked_0) (List.mem_of_getElem? (i := 0) rfl) _ _ _ _ ?_
  exact And.intro rfl (And.intro rfl rfl)
theorem c_X_trace (n : Nat) (hn : n ≤ 100) (hI : I 6 8 = nI n) (i : Int32) : Con g SHc (d + 1) 90 [.ref 0, .int i] I D (EqP (some (.int (if ix i (nI n) = true then I 49 i.toNatClampNeg else -1))) I D) := by
  refine Con.mk (LV := v_X_trace) k_X_trace (Nat.le_of_ble_eq_true rfl) (fun K hK => ?_)
  refine hK (0, 31, o_X_trace_0) (List.mem_of_getElem? (i := 0) rfl) _ _ _ _ ?_
  refine call_eq (c_X_isWithin g d I D i 0 _) ?_
  rw [hI, ix_wi (by omega)]
  refine And.intro (fun c1 => ?_) (fun c1 => ?_)
  · exact And.intro (by simp [bI_0.mp c1]) (And.intro (by first | (simp [bI_0.mp c1]; done) | (simp [bI_0.mp c1]; rfl)) (by first | rfl | simp [bI_0.mp c1]))
  have h1 := bI_n0.mp c1
  obtain ⟨j, hj, rfl⟩ := ix_nI (by omega) h1
  refine And.intro (inn_nI (by omega) (by decide)) ?_
  exact And.intro (by simp [h1]) (And.intro (by first | (simp [h1]; done) | (simp [h1]; rfl)) (by first | rfl | simp [h1]))
theorem c_M_trace (n : Nat) (hn : n ≤ 100) (hI : I 12 57 = nI n) (i : Int32) : Con g SHc (d + 1) 212 [.ref 12, .int i] I D (EqP (some (.int (if ix i (nI n) = true then I 109 i.toNatClampNeg else -1))) I D) := by
  refine Con.mk (LV := v_M_trace) k_M_trace (Nat.le_of_ble_eq_true rfl) (fun K hK => ?_)
  refine hK (0, 25, o_M_trace_0) (List.mem_of_getElem? (i := 0) rfl) _ _ _ _ ?_
  refine call_eq (c_M_in g d I D i 0 _) ?_
  rw [hI, ix_wi (by omega)]
  refine And.intro (fun c1 => ?_) (fun c1 => ?_)
  · exact And.intro (by simp [bI_0.mp c1]) (And.intro (by first | (simp [bI_0.mp c1]; done) | (simp [bI_0.mp c1]; rfl)) (by first | rfl | simp [bI_0.mp c1]))
  have h1 := bI_n0.mp c1
  obtain ⟨j, hj, rfl⟩ := ix_nI (by omega) h1
  refine And.intro (inn_nI (by omega) (by decide)) ?_
  exact And.intro (by simp [h1]) (And.intro (by first | (simp [h1]; done) | (simp [h1]; rfl)) (by first | rfl | simp [h1]))
theorem c_X_window (n : Nat) (hn : n ≤ 20) (hI : I 10 2 = nI n) (i l : Int32) : Con g SHc (d + 1) 122 [.ref 0, .int i, .int l] I D (EqP (some (.int (if ix i (nI n) = true then (if l = 0 then I 60 i.toNatClampNeg else I 61 i.toNatClampNeg) else -1))) I D) := by
  refine Con.mk (LV := v_X_window) k_X_window (Nat.le_of_ble_eq_true rfl) (fun K hK => ?_)
  refine hK (0, 45, o_X_window_0) (List.mem_of_getElem? (i := 0) rfl) _ _ _ _ ?_
  refine call_eq (c_X_isWithin g d I D i 0 _) ?_
  rw [hI, ix_wi (by omega)]
  refine And.intro (fun c1 => ?_) (fun c1 => ?_)
  · have h1 := bI_n0.mp c1
    obtain ⟨j, hj, rfl⟩ := ix_nI (by omega) h1
    rw [h1]
    refine And.intro (fun c2 => ?_) (fun c2 => ?_)
    · refine And.intro (inn_nI (by omega) (by decide)) ?_
      exact And.intro (by simp [c2]) (And.intro (by first | (simp [c2]; done) | (simp [c2]; rfl)) (by first | rfl | simp [c2]))
    · refine And.intro (inn_nI (by omega) (by decide)) ?_
      exact And.intro (by simp [c2]) (And.intro (by first | (simp [c2]; done) | (simp [c2]; rfl)) (by first | rfl | simp [c2]))
  · exact And.intro (by simp [bI_0.mp c1]) (And.intro (by first | (simp [bI_0.mp c1]; done) | (simp [bI_0.mp c1]; rfl)) (by first | rfl | simp [bI_0.mp c1]))
theorem c_M_window (n : Nat) (hn : n ≤ 20) (hI : I 12 73 = nI n) (i l : Int32) : Con g SHc (d + 1) 235 [.ref 12, .int i, .int l] I D (EqP (some (.int (if ix i (nI n) = true then (if l = 0 then I 121 i.toNatClampNeg else I 122 i.toNatClampNeg) else -1))) I D) := by
  refine Con.mk (LV := v_M_window) k_M_window (Nat.le_of_ble_eq_true rfl) (fun K hK => ?_)
  refine hK (0, 38, o_M_window_0) (List.mem_of_getElem? (i := 0) rfl) _ _ _ _ ?_
  refine call_eq (c_M_in g d I D i 0 _) ?_
  rw [hI, ix_wi (by omega)]
  refine And.intro (fun c1 => ?_) (fun c1 => ?_)
  · have h1 := bI_n0.mp c1
    obtain ⟨j, hj, rfl⟩ := ix_nI (by omega) h1
    rw [h1]
    refine And.intro (fun c2 => ?_) (fun c2 => ?_)
    · refine And.intro (inn_nI (by omega) (by decide)) ?_
      exact And.intro (by simp [c2]) (And.intro (by first | (simp [c2]; done) | (simp [c2]; rfl)) (by first | rfl | simp [c2]))
    · refine And.intro (inn_nI (by omega) (by decide)) ?_
      exact And.intro (by simp [c2]) (And.intro (by first | (simp [c2]; done) | (simp [c2]; rfl)) (by first | rfl | simp [c2]))
  · exact And.intro (by simp [bI_0.mp c1]) (And.intro (by first | (simp [bI_0.mp c1]; done) | (simp [bI_0.mp c1]; rfl)) (by first | rfl | simp [bI_0.mp c1]))
theorem c_X_planned (n : Nat) (hn : n ≤ 40) (hI : I 11 13 = nI n) (p v : Int32) : Con g SHc (d + 1) 135 [.ref 0, .int p, .int v] I D (EqP (some (.int (if (ix p (nI n) && wi v 0 2) = true then (if v = 0 then (if I 67 p.toNatClampNeg = 0 then 0 else 1) else if v = 1 then I 66 p.toNatClampNeg else I 65 p.toNatClampNeg) else -2))) I D) := by
  refine Con.mk (LV := v_X_planned) k_X_planned (Nat.le_of_ble_eq_true rfl) (fun K hK => ?_)
  refine hK (0, 69, o_X_planned_0) (List.mem_of_getElem? (i := 0) rfl) _ _ _ _ ?_
  refine call_eq (c_X_isPassage g d I D p) ?_
  rw [hI]
  refine And.intro (fun c1 => ?_) (fun c1 => ?_)
  · exact And.intro (by simp [bI_0.mp c1, ix]) (And.intro (by first | (simp [bI_0.mp c1, ix]; done) | (simp [bI_0.mp c1, ix]; rfl)) (by first | rfl | simp [bI_0.mp c1, ix]))
  have h1 : ix p (nI n) = true := bI_n0.mp c1
  obtain ⟨j, hj, rfl⟩ := ix_nI (by omega) h1
  have hc : (nI j).toNatClampNeg = j := nI_clamp (by omega)
  have hi : inn (nI j) 40 := inn_nI (by omega) (by decide)
  rw [h1, hc]
  refine call_eq (c_X_isWithin g d I D v 0 2) ?_
  refine And.intro (fun c2 => ?_) (fun c2 => ?_)
  · have h2 := wi_02.mp (bI_n0.mp c2)
    refine And.intro (fun c3 => ?_) (fun c3 => ?_)
    · have h3 : v = 1 ∨ v = 2 := h2.resolve_left c3
      refine And.intro (fun c4 => ?_) (fun c4 => ?_)
      · refine And.intro (hi) ?_
        rw [hc]
        exact And.intro (by simp [h3.resolve_left c4, show wi 2 0 2 = true from rfl]) (And.intro (by first | (simp [h3.resolve_left c4, show wi 2 0 2 = true from rfl]; done) | (simp [h3.resolve_left c4, show wi 2 0 2 = true from rfl]; rfl)) (by first | rfl | simp [h3.resolve_left c4, show wi 2 0 2 = true from rfl]))
      · refine And.intro (hi) ?_
        rw [hc]
        exact And.intro (by simp [c4, show wi 1 0 2 = true from rfl]) (And.intro (by first | (simp [c4, show wi 1 0 2 = true from rfl]; done) | (simp [c4, show wi 1 0 2 = true from rfl]; rfl)) (by first | rfl | simp [c4, show wi 1 0 2 = true from rfl]))
    · refine And.intro (hi) ?_
      rw [hc]
      subst c3
      refine And.intro (fun c4 => ?_) (fun c4 => ?_)
      · exact And.intro (by simp [c4, show wi 0 0 2 = true from rfl]) (And.intro (by first | (simp [c4, show wi 0 0 2 = true from rfl]; done) | (simp [c4, show wi 0 0 2 = true from rfl]; rfl)) (by first | rfl | simp [c4, show wi 0 0 2 = true from rfl]))
      · exact And.intro (by simp [c4, show wi 0 0 2 = true from rfl]) (And.intro (by first | (simp [c4, show wi 0 0 2 = true from rfl]; done) | (simp [c4, show wi 0 0 2 = true from rfl]; rfl)) (by first | rfl | simp [c4, show wi 0 0 2 = true from rfl]))
  · exact And.intro (by simp [bI_0.mp c2]) (And.intro (by first | (simp [bI_0.mp c2]; done) | (simp [bI_0.mp c2]; rfl)) (by first | rfl | simp [bI_0.mp c2]))
theorem c_M_planned (n : Nat) (hn : n ≤ 40) (hI : I 12 78 = nI n) (p v : Int32) : Con g SHc (d + 2) 244 [.ref 12, .int p, .int v] I D (EqP (some (.int (if (ix p (nI n) && wi v 0 2) = true then (if v = 0 then (if I 126 p.toNatClampNeg = 0 then 0 else 1) else if v = 1 then I 128 p.toNatClampNeg else I 127 p.toNatClampNeg) else -2))) I D) := by
  refine Con.mk (LV := v_M_planned) k_M_planned (Nat.le_of_ble_eq_true rfl) (fun K hK => ?_)
  refine hK (0, 62, o_M_planned_0) (List.mem_of_getElem? (i := 0) rfl) _ _ _ _ ?_
  refine call_eq (c_M_isPassage g d I D p) ?_
  rw [hI, ix_wi (by omega)]
  refine And.intro (fun c1 => ?_) (fun c1 => ?_)
  · exact And.intro (by simp [bI_0.mp c1]) (And.intro (by first | (simp [bI_0.mp c1]; done) | (simp [bI_0.mp c1]; rfl)) (by first | rfl | simp [bI_0.mp c1]))
  have h1 : ix p (nI n) = true := bI_n0.mp c1
  obtain ⟨j, hj, rfl⟩ := ix_nI (by omega) h1
  have hc : (nI j).toNatClampNeg = j := nI_clamp (by omega)
  have hi : inn (nI j) 40 := inn_nI (by omega) (by decide)
  rw [h1, hc]
  refine call_eq (c_M_in g (d + 1) I D v 0 2) ?_
  refine And.intro (fun c2 => ?_) (fun c2 => ?_)
  · have h2 := wi_02.mp (bI_n0.mp c2)
    refine And.intro (fun c3 => ?_) (fun c3 => ?_)
    · have h3 : v = 1 ∨ v = 2 := h2.resolve_left c3
      refine And.intro (fun c4 => ?_) (fun c4 => ?_)
      · refine And.intro (hi) ?_
        rw [hc]
        exact And.intro (by simp [h3.resolve_left c4, show wi 2 0 2 = true from rfl]) (And.intro (by first | (simp [h3.resolve_left c4, show wi 2 0 2 = true from rfl]; done) | (simp [h3.resolve_left c4, show wi 2 0 2 = true from rfl]; rfl)) (by first | rfl | simp [h3.resolve_left c4, show wi 2 0 2 = true from rfl]))
      · refine And.intro (hi) ?_
        rw [hc]
        exact And.intro (by simp [c4, show wi 1 0 2 = true from rfl]) (And.intro (by first | (simp [c4, show wi 1 0 2 = true from rfl]; done) | (simp [c4, show wi 1 0 2 = true from rfl]; rfl)) (by first | rfl | simp [c4, show wi 1 0 2 = true from rfl]))
    · refine And.intro (hi) ?_
      rw [hc]
      subst c3
      refine And.intro (fun c4 => ?_) (fun c4 => ?_)
      · exact And.intro (by simp [c4, show wi 0 0 2 = true from rfl]) (And.intro (by first | (simp [c4, show wi 0 0 2 = true from rfl]; done) | (simp [c4, show wi 0 0 2 = true from rfl]; rfl)) (by first | rfl | simp [c4, show wi 0 0 2 = true from rfl]))
      · exact And.intro (by simp [c4, show wi 0 0 2 = true from rfl]) (And.intro (by first | (simp [c4, show wi 0 0 2 = true from rfl]; done) | (simp [c4, show wi 0 0 2 = true from rfl]; rfl)) (by first | rfl | simp [c4, show wi 0 0 2 = true from rfl]))
  · exact And.intro (by simp [bI_0.mp c2]) (And.intro (by first | (simp [bI_0.mp c2]; done) | (simp [bI_0.mp c2]; rfl)) (by first | rfl | simp [bI_0.mp c2]))
theorem c_X_digest (n : Nat) (hn : n ≤ 40) (hI : I 11 13 = nI n)  : Con g SHc (d) 147 [.ref 0] I D (EqP (some (.int (dgF (I 66) n))) I D) := by
  refine Con.mk (LV := v_X_digest) k_X_digest (Nat.le_of_ble_eq_true rfl) (fun K hK => ?_)
  have loop : ∀ r i, i + r = n → K 5 [(0, .ref 0), (1, .int (dgF (I 66) i)), (2, .int (nI i))] [] I D := by
    intro r
    induction r with
    | zero =>
      intro i hi
      have hi : i = n := by omega
      subst hi
      refine hK (5, 39, o_X_digest_1) (List.mem_of_getElem? (i := 1) rfl) _ _ _ _ ?_
      refine And.intro (fun c => ?_) (fun c => ?_)
      · exact And.intro rfl (And.intro rfl rfl)
      · rw [hI] at c
        exact absurd (nI_le (Nat.le_refl _) (by omega)) c
    | succ r ih =>
      intro i hi
      have go := ih (i + 1) (by omega)
      rw [nI_succ] at go
      refine hK (5, 39, o_X_digest_1) (List.mem_of_getElem? (i := 1) rfl) _ _ _ _ ?_
      refine And.intro (fun c => ?_) (fun c => ?_)
      · rw [hI] at c
        exact absurd c (nI_ge (by omega) (by omega))
      · refine And.intro (inn_nI (by omega) (by decide)) ?_
        rw [nI_clamp (show i < 2 ^ 31 by omega)]
        exact go
  refine hK (0, 5, o_X_digest_0) (List.mem_of_getElem? (i := 0) rfl) _ _ _ _ ?_
  exact loop n 0 (by omega)
theorem c_M_digest (n : Nat) (hn : n ≤ 40) (hI : I 12 78 = nI n)  : Con g SHc (d) 253 [.ref 12] I D (EqP (some (.int (dgF (I 128) n))) I D) := by
  refine Con.mk (LV := v_M_digest) k_M_digest (Nat.le_of_ble_eq_true rfl) (fun K hK => ?_)
  have loop : ∀ r i, i + r = n → K 5 [(0, .ref 12), (1, .int (dgF (I 128) i)), (2, .int (nI i))] [] I D := by
    intro r
    induction r with
    | zero =>
      intro i hi
      have hi : i = n := by omega
      subst hi
      refine hK (5, 33, o_M_digest_1) (List.mem_of_getElem? (i := 1) rfl) _ _ _ _ ?_
      refine And.intro (fun c => ?_) (fun c => ?_)
      · exact And.intro rfl (And.intro rfl rfl)
      · rw [hI] at c
        exact absurd (nI_le (Nat.le_refl _) (by omega)) c
    | succ r ih =>
      intro i hi
      have go := ih (i + 1) (by omega)
      rw [nI_succ] at go
      refine hK (5, 33, o_M_digest_1) (List.mem_of_getElem? (i := 1) rfl) _ _ _ _ ?_
      refine And.intro (fun c => ?_) (fun c => ?_)
      · rw [hI] at c
        exact absurd c (nI_ge (by omega) (by omega))
      · refine And.intro (inn_nI (by omega) (by decide)) ?_
        rw [nI_clamp (show i < 2 ^ 31 by omega)]
        exact go
  refine hK (0, 5, o_M_digest_0) (List.mem_of_getElem? (i := 0) rfl) _ _ _ _ ?_
  exact loop n 0 (by omega)
theorem c_X_sun (a b : Int32) : Con g SHc (d + 1) 112 [.ref 0, .int a, .int b] I D (EqP (some (.int (if (wi a 0 86400 && wi b 0 86400) = true then 1 else -2))) (if (wi a 0 86400 && wi b 0 86400) = true then up2 (up2 I 8 6 a) 8 7 b else I) D) := by
  refine Con.mk (LV := v_X_sun) k_X_sun (Nat.le_of_ble_eq_true rfl) (fun K hK => ?_)
  refine hK (0, 43, o_X_sun_0) (List.mem_of_getElem? (i := 0) rfl) _ _ _ _ ?_
  clear hK
  repeat' (first | (refine And.intro (fun _ => ?_) (fun _ => ?_)) | (refine call_eq (c_X_isWithin g _ _ _ _ _ _) ?_) | (refine call_eq (c_X_isMoment g _ _ _ _) ?_) | (refine call_eq (c_X_isDay g _ _ _ _) ?_) | (refine call_eq (c_X_isMinute g _ _ _ _) ?_) | (refine call_eq (c_X_isStation g _ _ _ _) ?_) | (refine call_eq (c_X_isFleet g _ _ _ _) ?_) | (refine call_eq (c_X_isRoute g _ _ _ _) ?_) | (refine call_eq (c_X_isGauge g _ _ _ _) ?_) | (refine call_eq (c_X_isShoal g _ _ _ _) ?_) | (refine call_eq (c_X_isShip g _ _ _ _) ?_) | (refine call_eq (c_X_isPassage g _ _ _ _) ?_) | (refine call_eq (c_X_isShipOrNothing g _ _ _ _) ?_) | (refine call_eq (c_X_isPast g _ _ _ _) ?_) | (refine call_eq (c_X_isBed g _ _ _ _) ?_) | (refine call_eq (c_X_areSpent g _ _ _) ?_) | (refine call_eq (c_X_tell g _ _ _ _) ?_) | (refine call_eq (c_X_isNoFloat g _ _ _ _) ?_) | (refine call_eq (c_X_isMark g _ _ _ _) ?_) | (refine And.intro (fun _ => ?_) ?_) | intro _)
  all_goals (refine And.intro ?_ (And.intro ?_ ?_) <;> (first | rfl | (simp_all [bI_0, bI_n0]; done) | (simp_all [bI_0, bI_n0, i32_lt, i32_le] <;> omega)))
theorem c_M_sun (a b : Int32) : Con g SHc (d + 1) 227 [.ref 12, .int a, .int b] I D (EqP (some (.int (if (wi a 0 86400 && wi b 0 86400) = true then 1 else -2))) (if (wi a 0 86400 && wi b 0 86400) = true then up2 (up2 I 12 71 a) 12 72 b else I) D) := by
  refine Con.mk (LV := v_M_sun) k_M_sun (Nat.le_of_ble_eq_true rfl) (fun K hK => ?_)
  refine hK (0, 37, o_M_sun_0) (List.mem_of_getElem? (i := 0) rfl) _ _ _ _ ?_
  clear hK
  repeat' (first | (refine And.intro (fun _ => ?_) (fun _ => ?_)) | (refine call_eq (c_M_in g _ _ _ _ _ _) ?_) | (refine call_eq (c_M_isMoment g _ _ _ _) ?_) | (refine call_eq (c_M_isMinute g _ _ _ _) ?_) | (refine call_eq (c_M_isStation g _ _ _ _) ?_) | (refine call_eq (c_M_isFleet g _ _ _ _) ?_) | (refine call_eq (c_M_isRoute g _ _ _ _) ?_) | (refine call_eq (c_M_isGauge g _ _ _ _) ?_) | (refine call_eq (c_M_isShoal g _ _ _ _) ?_) | (refine call_eq (c_M_isShip g _ _ _ _) ?_) | (refine call_eq (c_M_isPassage g _ _ _ _) ?_) | (refine call_eq (c_M_isPart g _ _ _ _) ?_) | (refine call_eq (c_M_isKnowing g _ _ _ _ _) ?_) | (refine call_eq (c_M_isFull g _ _ _) ?_) | (refine call_eq (c_M_fails g _ _ _ _) ?_) | (refine call_eq (c_M_isNoFloat g _ _ _ _) ?_) | (refine And.intro (fun _ => ?_) ?_) | intro _)
  all_goals (refine And.intro ?_ (And.intro ?_ ?_) <;> (first | rfl | (simp_all [bI_0, bI_n0]; done) | (simp_all [bI_0, bI_n0, i32_lt, i32_le] <;> omega)))
theorem nar_1 : vp_nar .boolean 1 = 1 := rfl
theorem nar_0 : vp_nar .boolean 0 = 0 := rfl
/-- a PASSAGE waits, from a moment on -/
def agn (w s t : Nat) (I : MI) (j : Nat) (nw : Int32) : MI := up2 (up2 (up2 I w j 1) s j nw) t j (-1)
theorem c_X_letWait (j : Nat) (hj : j < 40) (nw : Int32) : Con g SHc d 126 [.ref 11, .int (nI j), .int nw] I D (EqP none (agn 67 65 66 I j nw) D) := by
  have hc : (nI j).toNatClampNeg = j := nI_clamp (by omega)
  have hi : inn (nI j) 40 := inn_nI hj (by decide)
  refine Con.mk (LV := v_Passages_letWait) k_Passages_letWait (Nat.le_of_ble_eq_true rfl) (fun K hK => ?_)
  refine hK (0, 22, o_Passages_letWait_0) (List.mem_of_getElem? (i := 0) rfl) _ _ _ _ ?_
  refine And.intro (hi) ?_
  refine And.intro (hi) ?_
  refine And.intro (hi) ?_
  rw [hc]
  exact And.intro rfl (And.intro rfl rfl)
theorem c_X_again (n : Nat) (hn : n ≤ 40) (hI : I 11 13 = nI n) (p : Int32) : Con g SHc (d + 1) 137 [.ref 0, .int p] I D (EqP (some (.int (if ix p (nI n) = true then (if I 67 p.toNatClampNeg = 0 then 1 else -3) else -2))) (if ix p (nI n) = true then (if I 67 p.toNatClampNeg = 0 then agn 67 65 66 I p.toNatClampNeg (I 0 11) else I) else I) D) := by
  refine Con.mk (LV := v_X_again) k_X_again (Nat.le_of_ble_eq_true rfl) (fun K hK => ?_)
  refine hK (0, 40, o_X_again_0) (List.mem_of_getElem? (i := 0) rfl) _ _ _ _ ?_
  refine call_eq (c_X_isPassage g d I D p) ?_
  rw [hI]
  refine And.intro (fun c1 => ?_) (fun c1 => ?_)
  · have h1 : ix p (nI n) = true := bI_n0.mp c1
    obtain ⟨j, hj, rfl⟩ := ix_nI (by omega) h1
    have hc : (nI j).toNatClampNeg = j := nI_clamp (by omega)
    have hi : inn (nI j) 40 := inn_nI (by omega) (by decide)
    rw [h1, hc]
    refine And.intro (hi) ?_
    rw [hc]
    refine And.intro (fun c2 => ?_) (fun c2 => ?_)
    · refine call_eq (c_X_letWait g d I D j (by omega) _) ?_
      exact And.intro (by simp [c2, agn]) (And.intro (by first | (simp [c2, agn]; done) | (simp [c2, agn]; rfl)) (by first | rfl | simp [c2, agn]))
    · exact And.intro (by simp [c2]) (And.intro (by first | (simp [c2]; done) | (simp [c2]; rfl)) (by first | rfl | simp [c2]))
  · exact And.intro (by simp [bI_0.mp c1, ix]) (And.intro (by first | (simp [bI_0.mp c1, ix]; done) | (simp [bI_0.mp c1, ix]; rfl)) (by first | rfl | simp [bI_0.mp c1, ix]))
theorem c_M_again (n : Nat) (hn : n ≤ 40) (hI : I 12 78 = nI n) (p : Int32) : Con g SHc (d + 2) 246 [.ref 12, .int p] I D (EqP (some (.int (if ix p (nI n) = true then (if I 126 p.toNatClampNeg = 0 then 1 else -3) else -2))) (if ix p (nI n) = true then (if I 126 p.toNatClampNeg = 0 then agn 126 127 128 I p.toNatClampNeg (I 12 0) else I) else I) D) := by
  refine Con.mk (LV := v_M_again) k_M_again (Nat.le_of_ble_eq_true rfl) (fun K hK => ?_)
  refine hK (0, 49, o_M_again_0) (List.mem_of_getElem? (i := 0) rfl) _ _ _ _ ?_
  refine call_eq (c_M_isPassage g d I D p) ?_
  rw [hI, ix_wi (by omega)]
  refine And.intro (fun c1 => ?_) (fun c1 => ?_)
  · have h1 : ix p (nI n) = true := bI_n0.mp c1
    obtain ⟨j, hj, rfl⟩ := ix_nI (by omega) h1
    have hc : (nI j).toNatClampNeg = j := nI_clamp (by omega)
    have hi : inn (nI j) 40 := inn_nI (by omega) (by decide)
    rw [h1, hc]
    refine And.intro (hi) ?_
    rw [hc]
    refine And.intro (fun c2 => ?_) (fun c2 => ?_)
    · refine And.intro (hi) ?_
      refine And.intro (hi) ?_
      refine And.intro (hi) ?_
      rw [hc]
      exact And.intro (by simp [c2, agn]) (And.intro (by first | (simp [c2, agn]; done) | (simp [c2, agn]; rfl)) (by first | rfl | simp [c2, agn]))
    · exact And.intro (by simp [c2]) (And.intro (by first | (simp [c2]; done) | (simp [c2]; rfl)) (by first | rfl | simp [c2]))
  · exact And.intro (by simp [bI_0.mp c1]) (And.intro (by first | (simp [bI_0.mp c1]; done) | (simp [bI_0.mp c1]; rfl)) (by first | rfl | simp [bI_0.mp c1]))
end S28
