/-! scratch: slots that no answer depends on -/
def isScr (a b : Nat) : Bool := (a == 3 && b == 12) || (a == 3 && b == 13) || (a == 3 && b == 14) || (a == 6 && b == 10) || (a == 8 && b == 8) || (a == 8 && b == 9) || (a == 8 && b == 10) || (a == 12 && b == 32) || (a == 12 && b == 48) || (a == 12 && b == 62) || (a == 12 && b == 87) || a == 54 || a == 59 || a == 113 || a == 114 || a == 115 || a == 116 || a == 130
/-- I, with the scratch of sc -/
def ovX (I sc : MI) : MI := upc (upc (upc (upc (upc (upc (upc (up2 (up2 (up2 (up2 (up2 (up2 (up2 (up2 (up2 (up2 (up2 (I) 3 12 (sc 3 12)) 3 13 (sc 3 13)) 3 14 (sc 3 14)) 6 10 (sc 6 10)) 8 8 (sc 8 8)) 8 9 (sc 8 9)) 8 10 (sc 8 10)) 12 32 (sc 12 32)) 12 48 (sc 12 48)) 12 62 (sc 12 62)) 12 87 (sc 12 87)) 54 (sc 54)) 59 (sc 59)) 113 (sc 113)) 114 (sc 114)) 115 (sc 115)) 116 (sc 116)) 130 (sc 130)
theorem ov_at (I sc : MI) (a b : Nat) : ovX I sc a b = if isScr a b = true then sc a b else I a b := by
  unfold ovX isScr
  simp only [up2_at2, upc_at, Bool.or_eq_true, Bool.and_eq_true, beq_iff_eq]
  by_cases h130 : a = 130
  · subst h130
    simp
  by_cases h116 : a = 116
  · subst h116
    simp
  by_cases h115 : a = 115
  · subst h115
    simp
  by_cases h114 : a = 114
  · subst h114
    simp
  by_cases h113 : a = 113
  · subst h113
    simp
  by_cases h59 : a = 59
  · subst h59
    simp
  by_cases h54 : a = 54
  · subst h54
    simp
  by_cases k12_87 : a = 12 ∧ b = 87
  · obtain ⟨rfl, rfl⟩ := k12_87
    simp
  by_cases k12_62 : a = 12 ∧ b = 62
  · obtain ⟨rfl, rfl⟩ := k12_62
    simp
  by_cases k12_48 : a = 12 ∧ b = 48
  · obtain ⟨rfl, rfl⟩ := k12_48
    simp
  by_cases k12_32 : a = 12 ∧ b = 32
  · obtain ⟨rfl, rfl⟩ := k12_32
    simp
  by_cases k8_10 : a = 8 ∧ b = 10
  · obtain ⟨rfl, rfl⟩ := k8_10
    simp
  by_cases k8_9 : a = 8 ∧ b = 9
  · obtain ⟨rfl, rfl⟩ := k8_9
    simp
  by_cases k8_8 : a = 8 ∧ b = 8
  · obtain ⟨rfl, rfl⟩ := k8_8
    simp
  by_cases k6_10 : a = 6 ∧ b = 10
  · obtain ⟨rfl, rfl⟩ := k6_10
    simp
  by_cases k3_14 : a = 3 ∧ b = 14
  · obtain ⟨rfl, rfl⟩ := k3_14
    simp
  by_cases k3_13 : a = 3 ∧ b = 13
  · obtain ⟨rfl, rfl⟩ := k3_13
    simp
  by_cases k3_12 : a = 3 ∧ b = 12
  · obtain ⟨rfl, rfl⟩ := k3_12
    simp
  simp only [h54, h59, h113, h114, h115, h116, h130, k3_12, k3_13, k3_14, k6_10, k8_8, k8_9, k8_10, k12_32, k12_48, k12_62, k12_87, if_false, or_self, false_or, or_false]
theorem ov_up2 (I sc : MI) (a b : Nat) (v : Int32) (h : isScr a b = true) : up2 (ovX I sc) a b v = ovX I (up2 sc a b v) := by
  funext x y
  rw [up2_at2, ov_at, ov_at, up2_at2]
  by_cases h1 : x = a ∧ y = b
  · obtain ⟨rfl, rfl⟩ := h1
    rw [if_pos ⟨rfl, rfl⟩, if_pos h, if_pos ⟨rfl, rfl⟩]
  · rw [if_neg h1, if_neg h1]
theorem ov_upc (I sc : MI) (a : Nat) (G : Nat → Int32) (h : ∀ b, isScr a b = true) : upc (ovX I sc) a G = ovX I (upc sc a G) := by
  funext x y
  rw [upc_at, ov_at, ov_at, upc_at]
  by_cases h1 : x = a
  · subst h1
    rw [if_pos rfl, if_pos (h y), if_pos rfl]
  · rw [if_neg h1, if_neg h1]
theorem ov_id (I : MI) : ovX I I = I := by
  funext x y
  rw [ov_at]
  split <;> rfl
theorem ov_ov (I sc sd : MI) : ovX (ovX I sc) sd = ovX I sd := by
  funext x y
  rw [ov_at, ov_at, ov_at]
  split <;> rfl
