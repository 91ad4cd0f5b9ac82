/-! the small questions -/
section S20
variable (g : Gp) (d : Nat) (I : MI) (D : MD)
theorem c_X_isWithin (v a b : Int32) : Con g SHc d 4 [.int v, .int a, .int b] I D (EqP (some (.int (bI (wi v a b)))) I D) := by
  refine Con.mk (LV := v_X_isWithin) k_X_isWithin (Nat.le_of_ble_eq_true rfl) (fun K hK => ?_)
  refine hK (0, 16, o_X_isWithin_0) (List.mem_of_getElem? (i := 0) rfl) _ _ _ _ ?_
  refine And.intro (fun c1 => ?_) (fun c1 => ?_)
  · exact And.intro (by decide) (And.intro (by simp [wi, bI, i32_nle.mpr c1]) (And.intro rfl rfl))
  refine And.intro (fun c2 => ?_) (fun c2 => ?_)
  · exact And.intro (by decide) (And.intro (by simp [wi, bI, i32_nle.mpr c2]) (And.intro rfl rfl))
  · exact And.intro (by decide) (And.intro (by simp [wi, bI, i32_nlt.mp c1, i32_nlt.mp c2]) (And.intro rfl rfl))
theorem c_M_in (v a b : Int32) : Con g SHc d 150 [.int v, .int a, .int b] I D (EqP (some (.int (bI (wi v a b)))) I D) := by
  refine Con.mk (LV := v_M_in) k_M_in (Nat.le_of_ble_eq_true rfl) (fun K hK => ?_)
  refine hK (0, 16, o_M_in_0) (List.mem_of_getElem? (i := 0) rfl) _ _ _ _ ?_
  refine And.intro (fun c1 => ?_) (fun c1 => ?_)
  · exact And.intro (by decide) (And.intro (by simp [wi, bI, i32_nle.mpr c1]) (And.intro rfl rfl))
  refine And.intro (fun c2 => ?_) (fun c2 => ?_)
  · exact And.intro (by decide) (And.intro (by simp [wi, bI, i32_nle.mpr c2]) (And.intro rfl rfl))
  · exact And.intro (by decide) (And.intro (by simp [wi, bI, i32_nlt.mp c1, i32_nlt.mp c2]) (And.intro rfl rfl))
/-- 0 <= v < n, n a positive constant -/
theorem wi_lt {v n m : Int32} (h : n.toInt = m.toInt + 1) : wi v 0 m = (decide (0 ≤ v) && decide (v < n)) := by
  unfold wi
  congr 1
  exact decide_eq_decide.mpr (by rw [i32_le, i32_lt]; omega)
theorem wi_0 {v m : Int32} (h : v < 0) : wi v 0 m = false := by simp [wi, i32_nle.mpr h]
theorem wi_1 {v n m : Int32} (h : n.toInt = m.toInt + 1) (h2 : n ≤ v) : wi v 0 m = false := by simp [wi_lt h, i32_nlt.mpr h2]
theorem wi_2 {v n m : Int32} (h : n.toInt = m.toInt + 1) (h1 : ¬ v < 0) (h2 : ¬ n ≤ v) : wi v 0 m = true := by simp [wi_lt h, i32_nlt.mp h1, i32_nle.mp h2]
theorem c_X_isMoment (v : Int32) : Con g SHc d 1 [.int v] I D (EqP (some (.int (bI (wi v 0 2591999)))) I D) := by
  refine Con.mk (LV := v_X_isMoment) k_X_isMoment (Nat.le_of_ble_eq_true rfl) (fun K hK => ?_)
  refine hK (0, 17, o_X_isMoment_0) (List.mem_of_getElem? (i := 0) rfl) _ _ _ _ ?_
  refine And.intro (fun c1 => ?_) (fun c1 => ?_)
  · exact And.intro (by decide) (And.intro (by rw [wi_0 c1]; rfl) (And.intro rfl rfl))
  refine And.intro (fun c2 => ?_) (fun c2 => ?_)
  · exact And.intro (by decide) (And.intro (by rw [wi_1 (by decide) c2]; rfl) (And.intro rfl rfl))
  · exact And.intro (by decide) (And.intro (by rw [wi_2 (by decide) c1 c2]; rfl) (And.intro rfl rfl))
theorem c_M_isMoment (v : Int32) : Con g SHc (d + 1) 149 [.int v] I D (EqP (some (.int (bI (wi v 0 2591999)))) I D) := by
  refine Con.mk (LV := v_M_isMoment) k_M_isMoment (Nat.le_of_ble_eq_true rfl) (fun K hK => ?_)
  refine hK (0, 8, o_M_isMoment_0) (List.mem_of_getElem? (i := 0) rfl) _ _ _ _ ?_
  refine call_eq (c_M_in g d I D v 0 2591999) ?_
  exact And.intro (bI_01 _) (And.intro rfl (And.intro rfl rfl))
theorem c_X_isDay (v : Int32) : Con g SHc d 9 [.int v] I D (EqP (some (.int (bI (wi v 0 29)))) I D) := by
  refine Con.mk (LV := v_X_isDay) k_X_isDay (Nat.le_of_ble_eq_true rfl) (fun K hK => ?_)
  refine hK (0, 16, o_X_isDay_0) (List.mem_of_getElem? (i := 0) rfl) _ _ _ _ ?_
  refine And.intro (fun c1 => ?_) (fun c1 => ?_)
  · exact And.intro (by decide) (And.intro (by rw [wi_0 c1]; rfl) (And.intro rfl rfl))
  refine And.intro (fun c2 => ?_) (fun c2 => ?_)
  · exact And.intro (by decide) (And.intro (by rw [wi_1 (by decide) c2]; rfl) (And.intro rfl rfl))
  · exact And.intro (by decide) (And.intro (by rw [wi_2 (by decide) c1 c2]; rfl) (And.intro rfl rfl))
theorem c_X_isMinute (v : Int32) : Con g SHc d 116 [.int v] I D (EqP (some (.int (bI (wi v 0 43199)))) I D) := by
  refine Con.mk (LV := v_X_isMinute) k_X_isMinute (Nat.le_of_ble_eq_true rfl) (fun K hK => ?_)
  refine hK (0, 17, o_X_isMinute_0) (List.mem_of_getElem? (i := 0) rfl) _ _ _ _ ?_
  refine And.intro (fun c1 => ?_) (fun c1 => ?_)
  · exact And.intro (by decide) (And.intro (by rw [wi_0 c1]; rfl) (And.intro rfl rfl))
  refine And.intro (fun c2 => ?_) (fun c2 => ?_)
  · exact And.intro (by decide) (And.intro (by rw [wi_1 (by decide) c2]; rfl) (And.intro rfl rfl))
  · exact And.intro (by decide) (And.intro (by rw [wi_2 (by decide) c1 c2]; rfl) (And.intro rfl rfl))
theorem c_M_isMinute (v : Int32) : Con g SHc (d + 1) 231 [.int v] I D (EqP (some (.int (bI (wi v 0 43199)))) I D) := by
  refine Con.mk (LV := v_M_isMinute) k_M_isMinute (Nat.le_of_ble_eq_true rfl) (fun K hK => ?_)
  refine hK (0, 9, o_M_isMinute_0) (List.mem_of_getElem? (i := 0) rfl) _ _ _ _ ?_
  refine call_eq (c_M_in g d I D v 0 43199) ?_
  exact And.intro (bI_01 _) (And.intro rfl (And.intro rfl rfl))
theorem c_X_isStation (v : Int32) : Con g SHc d 3 [.int v] I D (EqP (some (.int (bI (wi v 0 11)))) I D) := by
  refine Con.mk (LV := v_X_isStation) k_X_isStation (Nat.le_of_ble_eq_true rfl) (fun K hK => ?_)
  refine hK (0, 16, o_X_isStation_0) (List.mem_of_getElem? (i := 0) rfl) _ _ _ _ ?_
  refine And.intro (fun c1 => ?_) (fun c1 => ?_)
  · exact And.intro (by decide) (And.intro (by rw [wi_0 c1]; rfl) (And.intro rfl rfl))
  refine And.intro (fun c2 => ?_) (fun c2 => ?_)
  · exact And.intro (by decide) (And.intro (by rw [wi_1 (by decide) c2]; rfl) (And.intro rfl rfl))
  · exact And.intro (by decide) (And.intro (by rw [wi_2 (by decide) c1 c2]; rfl) (And.intro rfl rfl))
theorem c_M_isStation (v : Int32) : Con g SHc (d + 1) 152 [.int v] I D (EqP (some (.int (bI (wi v 0 11)))) I D) := by
  refine Con.mk (LV := v_M_isStation) k_M_isStation (Nat.le_of_ble_eq_true rfl) (fun K hK => ?_)
  refine hK (0, 8, o_M_isStation_0) (List.mem_of_getElem? (i := 0) rfl) _ _ _ _ ?_
  refine call_eq (c_M_in g d I D v 0 11) ?_
  exact And.intro (bI_01 _) (And.intro rfl (And.intro rfl rfl))
theorem c_X_isFleet (v : Int32) : Con g SHc d 93 [.int v] I D (EqP (some (.int (bI (wi v 0 3)))) I D) := by
  refine Con.mk (LV := v_X_isFleet) k_X_isFleet (Nat.le_of_ble_eq_true rfl) (fun K hK => ?_)
  refine hK (0, 15, o_X_isFleet_0) (List.mem_of_getElem? (i := 0) rfl) _ _ _ _ ?_
  refine And.intro (fun c1 => ?_) (fun c1 => ?_)
  · exact And.intro (by decide) (And.intro (by rw [wi_0 c1]; rfl) (And.intro rfl rfl))
  refine And.intro (fun c2 => ?_) (fun c2 => ?_)
  · exact And.intro (by decide) (And.intro (by rw [wi_1 (by decide) c2]; rfl) (And.intro rfl rfl))
  · exact And.intro (by decide) (And.intro (by rw [wi_2 (by decide) c1 c2]; rfl) (And.intro rfl rfl))
theorem c_M_isFleet (v : Int32) : Con g SHc (d + 1) 216 [.int v] I D (EqP (some (.int (bI (wi v 0 3)))) I D) := by
  refine Con.mk (LV := v_M_isFleet) k_M_isFleet (Nat.le_of_ble_eq_true rfl) (fun K hK => ?_)
  refine hK (0, 7, o_M_isFleet_0) (List.mem_of_getElem? (i := 0) rfl) _ _ _ _ ?_
  refine call_eq (c_M_in g d I D v 0 3) ?_
  exact And.intro (bI_01 _) (And.intro rfl (And.intro rfl rfl))
theorem c_X_isRoute (v : Int32) : Con g SHc d 106 [.int v] I D (EqP (some (.int (bI (wi v 0 5)))) I D) := by
  refine Con.mk (LV := v_X_isRoute) k_X_isRoute (Nat.le_of_ble_eq_true rfl) (fun K hK => ?_)
  refine hK (0, 16, o_X_isRoute_0) (List.mem_of_getElem? (i := 0) rfl) _ _ _ _ ?_
  refine And.intro (fun c1 => ?_) (fun c1 => ?_)
  · exact And.intro (by decide) (And.intro (by rw [wi_0 c1]; rfl) (And.intro rfl rfl))
  refine And.intro (fun c2 => ?_) (fun c2 => ?_)
  · exact And.intro (by decide) (And.intro (by rw [wi_1 (by decide) c2]; rfl) (And.intro rfl rfl))
  · exact And.intro (by decide) (And.intro (by rw [wi_2 (by decide) c1 c2]; rfl) (And.intro rfl rfl))
theorem c_M_isRoute (v : Int32) : Con g SHc (d + 1) 224 [.int v] I D (EqP (some (.int (bI (wi v 0 5)))) I D) := by
  refine Con.mk (LV := v_M_isRoute) k_M_isRoute (Nat.le_of_ble_eq_true rfl) (fun K hK => ?_)
  refine hK (0, 7, o_M_isRoute_0) (List.mem_of_getElem? (i := 0) rfl) _ _ _ _ ?_
  refine call_eq (c_M_in g d I D v 0 5) ?_
  exact And.intro (bI_01 _) (And.intro rfl (And.intro rfl rfl))
theorem c_X_isGauge (v : Int32) : Con g SHc d 24 [.ref 0, .int v] I D (EqP (some (.int (bI (decide (0 ≤ v) && decide (v < I 3 9))))) I D) := by
  refine Con.mk (LV := v_X_isGauge) k_X_isGauge (Nat.le_of_ble_eq_true rfl) (fun K hK => ?_)
  refine hK (0, 21, o_X_isGauge_0) (List.mem_of_getElem? (i := 0) rfl) _ _ _ _ ?_
  refine And.intro (fun c1 => ?_) (fun c1 => ?_)
  · exact And.intro (by decide) (And.intro (by simp [bI, i32_nle.mpr c1]) (And.intro rfl rfl))
  refine And.intro (fun c2 => ?_) (fun c2 => ?_)
  · exact And.intro (by decide) (And.intro (by simp [bI, i32_nlt.mpr c2]) (And.intro rfl rfl))
  · exact And.intro (by decide) (And.intro (by simp [bI, i32_nlt.mp c1, i32_nle.mp c2]) (And.intro rfl rfl))
theorem c_X_isShoal (v : Int32) : Con g SHc d 46 [.ref 0, .int v] I D (EqP (some (.int (bI (decide (0 ≤ v) && decide (v < I 4 8))))) I D) := by
  refine Con.mk (LV := v_X_isShoal) k_X_isShoal (Nat.le_of_ble_eq_true rfl) (fun K hK => ?_)
  refine hK (0, 21, o_X_isShoal_0) (List.mem_of_getElem? (i := 0) rfl) _ _ _ _ ?_
  refine And.intro (fun c1 => ?_) (fun c1 => ?_)
  · exact And.intro (by decide) (And.intro (by simp [bI, i32_nle.mpr c1]) (And.intro rfl rfl))
  refine And.intro (fun c2 => ?_) (fun c2 => ?_)
  · exact And.intro (by decide) (And.intro (by simp [bI, i32_nlt.mpr c2]) (And.intro rfl rfl))
  · exact And.intro (by decide) (And.intro (by simp [bI, i32_nlt.mp c1, i32_nle.mp c2]) (And.intro rfl rfl))
theorem c_X_isShip (v : Int32) : Con g SHc d 78 [.ref 0, .int v] I D (EqP (some (.int (bI (decide (0 ≤ v) && decide (v < I 6 9))))) I D) := by
  refine Con.mk (LV := v_X_isShip) k_X_isShip (Nat.le_of_ble_eq_true rfl) (fun K hK => ?_)
  refine hK (0, 21, o_X_isShip_0) (List.mem_of_getElem? (i := 0) rfl) _ _ _ _ ?_
  refine And.intro (fun c1 => ?_) (fun c1 => ?_)
  · exact And.intro (by decide) (And.intro (by simp [bI, i32_nle.mpr c1]) (And.intro rfl rfl))
  refine And.intro (fun c2 => ?_) (fun c2 => ?_)
  · exact And.intro (by decide) (And.intro (by simp [bI, i32_nlt.mpr c2]) (And.intro rfl rfl))
  · exact And.intro (by decide) (And.intro (by simp [bI, i32_nlt.mp c1, i32_nle.mp c2]) (And.intro rfl rfl))
theorem c_X_isPassage (v : Int32) : Con g SHc d 136 [.ref 0, .int v] I D (EqP (some (.int (bI (decide (0 ≤ v) && decide (v < I 11 13))))) I D) := by
  refine Con.mk (LV := v_X_isPassage) k_X_isPassage (Nat.le_of_ble_eq_true rfl) (fun K hK => ?_)
  refine hK (0, 21, o_X_isPassage_0) (List.mem_of_getElem? (i := 0) rfl) _ _ _ _ ?_
  refine And.intro (fun c1 => ?_) (fun c1 => ?_)
  · exact And.intro (by decide) (And.intro (by simp [bI, i32_nle.mpr c1]) (And.intro rfl rfl))
  refine And.intro (fun c2 => ?_) (fun c2 => ?_)
  · exact And.intro (by decide) (And.intro (by simp [bI, i32_nlt.mpr c2]) (And.intro rfl rfl))
  · exact And.intro (by decide) (And.intro (by simp [bI, i32_nlt.mp c1, i32_nle.mp c2]) (And.intro rfl rfl))
theorem c_X_isShipOrNothing (v : Int32) : Con g SHc d 76 [.ref 0, .int v] I D (EqP (some (.int (bI (decide (-1 ≤ v) && decide (v < I 6 9))))) I D) := by
  refine Con.mk (LV := v_X_isShipOrNothing) k_X_isShipOrNothing (Nat.le_of_ble_eq_true rfl) (fun K hK => ?_)
  refine hK (0, 22, o_X_isShipOrNothing_0) (List.mem_of_getElem? (i := 0) rfl) _ _ _ _ ?_
  refine And.intro (fun c1 => ?_) (fun c1 => ?_)
  · exact And.intro (by decide) (And.intro (by simp [bI, i32_nle.mpr c1]) (And.intro rfl rfl))
  refine And.intro (fun c2 => ?_) (fun c2 => ?_)
  · exact And.intro (by decide) (And.intro (by simp [bI, i32_nlt.mpr c2]) (And.intro rfl rfl))
  · exact And.intro (by decide) (And.intro (by simp [bI, i32_nlt.mp c1, i32_nle.mp c2]) (And.intro rfl rfl))
theorem c_X_isPast (v : Int32) : Con g SHc d 15 [.ref 0, .int v] I D (EqP (some (.int (bI (wi v 0 (I 0 11))))) I D) := by
  refine Con.mk (LV := v_X_isPast) k_X_isPast (Nat.le_of_ble_eq_true rfl) (fun K hK => ?_)
  refine hK (0, 18, o_X_isPast_0) (List.mem_of_getElem? (i := 0) rfl) _ _ _ _ ?_
  refine And.intro (fun c1 => ?_) (fun c1 => ?_)
  · exact And.intro (by decide) (And.intro (by simp [wi, bI, i32_nle.mpr c1]) (And.intro rfl rfl))
  refine And.intro (fun c2 => ?_) (fun c2 => ?_)
  · exact And.intro (by decide) (And.intro (by simp [wi, bI, i32_nle.mpr c2]) (And.intro rfl rfl))
  · exact And.intro (by decide) (And.intro (by simp [wi, bI, i32_nlt.mp c1, i32_nlt.mp c2]) (And.intro rfl rfl))
theorem c_X_isBed (v : Int32) : Con g SHc d 42 [.int v] I D (EqP (some (.int (bI (wi v (-1000) 5000)))) I D) := by
  refine Con.mk (LV := v_X_isBed) k_X_isBed (Nat.le_of_ble_eq_true rfl) (fun K hK => ?_)
  refine hK (0, 20, o_X_isBed_0) (List.mem_of_getElem? (i := 0) rfl) _ _ _ _ ?_
  refine And.intro (fun c1 => ?_) (fun c1 => ?_)
  · exact And.intro (by decide) (And.intro (by simp [wi, bI, i32_nle.mpr c1]) (And.intro rfl rfl))
  refine And.intro (fun c2 => ?_) (fun c2 => ?_)
  · exact And.intro (by decide) (And.intro (by simp [wi, bI, i32_nle.mpr c2]) (And.intro rfl rfl))
  · exact And.intro (by decide) (And.intro (by simp [wi, bI, i32_nlt.mp c1, i32_nlt.mp c2]) (And.intro rfl rfl))
theorem c_X_areSpent : Con g SHc d 16 [.ref 1] I D (EqP (some (.int (bI (decide (3000 ≤ I 1 0))))) I D) := by
  refine Con.mk (LV := v_Findings_areSpent) k_Findings_areSpent (Nat.le_of_ble_eq_true rfl) (fun K hK => ?_)
  refine hK (0, 16, o_Findings_areSpent_0) (List.mem_of_getElem? (i := 0) rfl) _ _ _ _ ?_
  refine And.intro (fun c1 => ?_) (fun c1 => ?_)
  · exact And.intro (by decide) (And.intro (by simp [bI, i32_nle.mpr c1]) (And.intro rfl rfl))
  · exact And.intro (by decide) (And.intro (by simp [bI, i32_nlt.mp c1]) (And.intro rfl rfl))
theorem c_M_isFull : Con g SHc d 161 [.ref 12] I D (EqP (some (.int (bI (decide (3000 ≤ I 12 2))))) I D) := by
  refine Con.mk (LV := v_M_isFull) k_M_isFull (Nat.le_of_ble_eq_true rfl) (fun K hK => ?_)
  refine hK (0, 16, o_M_isFull_0) (List.mem_of_getElem? (i := 0) rfl) _ _ _ _ ?_
  refine And.intro (fun c1 => ?_) (fun c1 => ?_)
  · exact And.intro (by decide) (And.intro (by simp [bI, i32_nle.mpr c1]) (And.intro rfl rfl))
  · exact And.intro (by decide) (And.intro (by simp [bI, i32_nlt.mp c1]) (And.intro rfl rfl))
/-- a FINDING is told -/
def tellX (f : Int32) (I : MI) : MI := up2 (up2 I 1 0 (I 1 0 + 1)) 1 1 f
def tellM (f : Int32) (I : MI) : MI := up2 (up2 I 12 1 f) 12 2 (I 12 2 + 1)
theorem c_X_tell (f : Int32) : Con g SHc d 18 [.ref 1, .int f] I D (EqP (some (.int (-10 - f))) (tellX f I) D) := by
  refine Con.mk (LV := v_Findings_tell) k_Findings_tell (Nat.le_of_ble_eq_true rfl) (fun K hK => ?_)
  refine hK (0, 20, o_Findings_tell_0) (List.mem_of_getElem? (i := 0) rfl) _ _ _ _ ?_
  exact And.intro rfl (And.intro rfl rfl)
theorem c_M_fails (f : Int32) : Con g SHc d 164 [.ref 12, .int f] I D (EqP (some (.int (-10 - f))) (tellM f I) D) := by
  refine Con.mk (LV := v_M_fails) k_M_fails (Nat.le_of_ble_eq_true rfl) (fun K hK => ?_)
  refine hK (0, 20, o_M_fails_0) (List.mem_of_getElem? (i := 0) rfl) _ _ _ _ ?_
  exact And.intro rfl (And.intro rfl rfl)
/-- the BITS of no number -/
def noF (b : Int32) : Bool := decide (2139095040 < b &&& 2147483647)
theorem c_X_isNoFloat (b : Int32) : Con g SHc d 26 [.int b] I D (EqP (some (.int (bI (noF b)))) I D) := by
  refine Con.mk (LV := v_X_isNoFloat) k_X_isNoFloat (Nat.le_of_ble_eq_true rfl) (fun K hK => ?_)
  refine hK (0, 17, o_X_isNoFloat_0) (List.mem_of_getElem? (i := 0) rfl) _ _ _ _ ?_
  refine And.intro (fun c1 => ?_) (fun c1 => ?_)
  · exact And.intro (by decide) (And.intro (by simp [noF, bI, i32_nlt.mpr c1]) (And.intro rfl rfl))
  · exact And.intro (by decide) (And.intro (by simp [noF, bI, i32_nle.mp c1]) (And.intro rfl rfl))
theorem c_M_isNoFloat (b : Int32) : Con g SHc d 170 [.int b] I D (EqP (some (.int (bI (noF b)))) I D) := by
  refine Con.mk (LV := v_M_isNoFloat) k_M_isNoFloat (Nat.le_of_ble_eq_true rfl) (fun K hK => ?_)
  refine hK (0, 17, o_M_isNoFloat_0) (List.mem_of_getElem? (i := 0) rfl) _ _ _ _ ?_
  refine And.intro (fun c1 => ?_) (fun c1 => ?_)
  · exact And.intro (by decide) (And.intro (by simp [noF, bI, i32_nlt.mpr c1]) (And.intro rfl rfl))
  · exact And.intro (by decide) (And.intro (by simp [noF, bI, i32_nle.mp c1]) (And.intro rfl rfl))
theorem c_X_isMark (b : Int32) : Con g SHc (d + 1) 107 [.int b] I D (EqP (some (.int (bI (decide (0 ≤ b) || noF b || decide (b &&& 2147483647 = 0))))) I D) := by
  refine Con.mk (LV := v_X_isMark) k_X_isMark (Nat.le_of_ble_eq_true rfl) (fun K hK => ?_)
  refine hK (0, 25, o_X_isMark_0) (List.mem_of_getElem? (i := 0) rfl) _ _ _ _ ?_
  refine And.intro (fun c1 => ?_) (fun c1 => ?_)
  · exact And.intro (by decide) (And.intro (by simp [bI, c1]) (And.intro rfl rfl))
  refine call_eq (c_X_isNoFloat g d I D b) ?_
  refine And.intro (fun c2 => ?_) (fun c2 => ?_)
  · exact And.intro (by decide) (And.intro (by simp [bI, bI_n0.mp c2]) (And.intro rfl rfl))
  refine And.intro (fun c3 => ?_) (fun c3 => ?_)
  · exact And.intro (by decide) (And.intro (by simp [bI, c1, bI_0.mp c2, c3]) (And.intro rfl rfl))
  · exact And.intro (by decide) (And.intro (by simp [bI, c3]) (And.intro rfl rfl))
theorem c_M_isKnowing (t k : Int32) : Con g SHc (d + 2) 160 [.ref 12, .int t, .int k] I D (EqP (some (.int (bI (wi t 0 2591999 && wi k 0 (I 12 0))))) I D) := by
  refine Con.mk (LV := v_M_isKnowing) k_M_isKnowing (Nat.le_of_ble_eq_true rfl) (fun K hK => ?_)
  refine hK (0, 25, o_M_isKnowing_0) (List.mem_of_getElem? (i := 0) rfl) _ _ _ _ ?_
  refine call_eq (c_M_isMoment g d I D t) ?_
  refine And.intro (fun c1 => ?_) (fun c1 => ?_)
  · exact And.intro (by decide) (And.intro (by simp [bI_0.mp c1, bI]) (And.intro rfl rfl))
  refine call_eq (c_M_in g (d + 1) I D k 0 (I 12 0)) ?_
  refine And.intro (fun c2 => ?_) (fun c2 => ?_)
  · exact And.intro (by decide) (And.intro (by simp [bI_0.mp c2, bI]) (And.intro rfl rfl))
  · exact And.intro (by decide) (And.intro (by simp [bI_n0.mp c1, bI_n0.mp c2, bI]) (And.intro rfl rfl))
theorem c_M_isGauge (v : Int32) : Con g SHc (d + 1) 168 [.ref 12, .int v] I D (EqP (some (.int (bI (wi v 0 (I 12 18 - 1))))) I D) := by
  refine Con.mk (LV := v_M_isGauge) k_M_isGauge (Nat.le_of_ble_eq_true rfl) (fun K hK => ?_)
  refine hK (0, 12, o_M_isGauge_0) (List.mem_of_getElem? (i := 0) rfl) _ _ _ _ ?_
  refine call_eq (c_M_in g d I D v 0 (I 12 18 - 1)) ?_
  exact And.intro (bI_01 _) (And.intro rfl (And.intro rfl rfl))
theorem c_M_isShoal (v : Int32) : Con g SHc (d + 1) 183 [.ref 12, .int v] I D (EqP (some (.int (bI (wi v 0 (I 12 33 - 1))))) I D) := by
  refine Con.mk (LV := v_M_isShoal) k_M_isShoal (Nat.le_of_ble_eq_true rfl) (fun K hK => ?_)
  refine hK (0, 12, o_M_isShoal_0) (List.mem_of_getElem? (i := 0) rfl) _ _ _ _ ?_
  refine call_eq (c_M_in g d I D v 0 (I 12 33 - 1)) ?_
  exact And.intro (bI_01 _) (And.intro rfl (And.intro rfl rfl))
theorem c_M_isShip (v : Int32) : Con g SHc (d + 1) 201 [.ref 12, .int v] I D (EqP (some (.int (bI (wi v 0 (I 12 49 - 1))))) I D) := by
  refine Con.mk (LV := v_M_isShip) k_M_isShip (Nat.le_of_ble_eq_true rfl) (fun K hK => ?_)
  refine hK (0, 12, o_M_isShip_0) (List.mem_of_getElem? (i := 0) rfl) _ _ _ _ ?_
  refine call_eq (c_M_in g d I D v 0 (I 12 49 - 1)) ?_
  exact And.intro (bI_01 _) (And.intro rfl (And.intro rfl rfl))
theorem c_M_isPassage (v : Int32) : Con g SHc (d + 1) 245 [.ref 12, .int v] I D (EqP (some (.int (bI (wi v 0 (I 12 78 - 1))))) I D) := by
  refine Con.mk (LV := v_M_isPassage) k_M_isPassage (Nat.le_of_ble_eq_true rfl) (fun K hK => ?_)
  refine hK (0, 12, o_M_isPassage_0) (List.mem_of_getElem? (i := 0) rfl) _ _ _ _ ?_
  refine call_eq (c_M_in g d I D v 0 (I 12 78 - 1)) ?_
  exact And.intro (bI_01 _) (And.intro rfl (And.intro rfl rfl))
theorem c_M_isPart (v : Int32) : Con g SHc (d + 2) 200 [.ref 12, .int v] I D (EqP (some (.int (bI (decide (v = -1) || wi v 0 (I 12 49 - 1))))) I D) := by
  refine Con.mk (LV := v_M_isPart) k_M_isPart (Nat.le_of_ble_eq_true rfl) (fun K hK => ?_)
  refine hK (0, 19, o_M_isPart_0) (List.mem_of_getElem? (i := 0) rfl) _ _ _ _ ?_
  refine And.intro (fun c1 => ?_) (fun c1 => ?_)
  · exact And.intro (by decide) (And.intro (by simp [bI, c1]) (And.intro rfl rfl))
  refine call_eq (c_M_isShip g d I D v) ?_
  refine And.intro (fun c2 => ?_) (fun c2 => ?_)
  · exact And.intro (by decide) (And.intro (by simp [bI, c1, bI_0.mp c2]) (And.intro rfl rfl))
  · exact And.intro (by decide) (And.intro (by simp [bI, bI_n0.mp c2]) (And.intro rfl rfl))
end S20
