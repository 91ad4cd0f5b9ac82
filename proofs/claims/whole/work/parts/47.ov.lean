/-! scratch: slots that no answer depends on -/
def isScr (a b : Nat) : Bool := (a == 3 && b == 12) || (a == 3 && b == 13) || (a == 3 && b == 14) || (a == 6 && b == 10) || (a == 8 && b == 8) || (a == 8 && b == 9) || (a == 8 && b == 10) || (a == 12 && b == 32) || (a == 12 && b == 48) || (a == 12 && b == 62) || (a == 12 && b == 87) || a == 54 || a == 59 || a == 113 || a == 114 || a == 115 || a == 116 || a == 130
/-- I, with the scratch of sc -/
def ovX (I sc : MI) : MI := upc (upc (upc (upc (upc (upc (upc (up2 (up2 (up2 (up2 (up2 (up2 (up2 (up2 (up2 (up2 (up2 (I) 3 12 (sc 3 12)) 3 13 (sc 3 13)) 3 14 (sc 3 14)) 6 10 (sc 6 10)) 8 8 (sc 8 8)) 8 9 (sc 8 9)) 8 10 (sc 8 10)) 12 32 (sc 12 32)) 12 48 (sc 12 48)) 12 62 (sc 12 62)) 12 87 (sc 12 87)) 54 (sc 54)) 59 (sc 59)) 113 (sc 113)) 114 (sc 114)) 115 (sc 115)) 116 (sc 116)) 130 (sc 130)
theorem ov_at (I sc : MI) (a b : Nat) : ovX I sc a b = if isScr a b = true then sc a b else I a b := by
  unfold ovX isScr
  simp only [up2_at2, upc_at, Bool.or_eq_true, Bool.and_eq_true, beq_iff_eq]
  by_cases h130 : a = 130
  · subst h130
    simp
  by_cases h116 : a = 116
  · subst h116
    simp
  by_cases h115 : a = 115
  · subst h115
    simp
  by_cases h114 : a = 114
  · subst h114
    simp
  by_cases h113 : a = 113
  · subst h113
    simp
  by_cases h59 : a = 59
  · subst h59
    simp
  by_cases h54 : a = 54
  · subst h54
    simp
  by_cases k12_87 : a = 12 ∧ b = 87
  · obtain ⟨rfl, rfl⟩ := k12_87
    simp
  by_cases k12_62 : a = 12 ∧ b = 62
  · obtain ⟨rfl, rfl⟩ := k12_62
    simp
  by_cases k12_48 : a = 12 ∧ b = 48
  · obtain ⟨rfl, rfl⟩ := k12_48
    simp
  by_cases k12_32 : a = 12 ∧ b = 32
  · obtain ⟨rfl, rfl⟩ := k12_32
    simp
  by_cases k8_10 : a = 8 ∧ b = 10
  · obtain ⟨rfl, rfl⟩ := k8_10
    simp
  by_cases k8_9 : a = 8 ∧ b = 9
  · obtain ⟨rfl, rfl⟩ := k8_9
    simp
  by_cases k8_8 : a = 8 ∧ b = 8
  · obtain ⟨rfl, rfl⟩ := k8_8
    simp
  by_cases k6_10 : a = 6 ∧ b = 10
  · obtain ⟨rfl, rfl⟩ := k6_10
    simp
  by_cases k3_14 : a = 3 ∧ b = 14
  · obtain ⟨rfl, rfl⟩ := k3_14
    simp
  by_cases k3_13 : a = 3 ∧ b = 13
  · obtain ⟨rfl, rfl⟩ := k3_13
    simp
  by_cases k3_12 : a = 3 ∧ b = 12
  · obtain ⟨rfl, rfl⟩ := k3_12
    simp
  simp only [h54, h59, h113, h114, h115, h116, h130, k3_12, k3_13, k3_14, k6_10, k8_8, k8_9, k8_10, k12_32, k12_48, k12_62, k12_87, if_false, or_self, false_or, or_false]
theorem ov_up2 (I sc : MI) (a b : Nat) (v : Int32) (h : isScr a b = true) : up2 (ovX I sc) a b v = ovX I (up2 sc a b v) := by
  funext x y
  rw [up2_at2, ov_at, ov_at, up2_at2]
  by_cases h1 : x = a ∧ y = b
  · obtain ⟨rfl, rfl⟩ := h1
    rw [if_pos ⟨rfl, rfl⟩, if_pos h, if_pos ⟨rfl, rfl⟩]
  · rw [if_neg h1, if_neg h1]
theorem ov_upc (I sc : MI) (a : Nat) (G : Nat → Int32) (h : ∀ b, isScr a b = true) : upc (ovX I sc) a G = ovX I (upc sc a G) := by
  funext x y
  rw [upc_at, ov_at, ov_at, upc_at]
  by_cases h1 : x = a
  · subst h1
    rw [if_pos rfl, if_pos (h y), if_pos rfl]
  · rw [if_neg h1, if_neg h1]
theorem ov_id (I : MI) : ovX I I = I := by
  funext x y
  rw [ov_at]
  split <;> rfl
theorem ov_ov (I sc sd : MI) : ovX (ovX I sc) sd = ovX I sd := by
  funext x y
  rw [ov_at, ov_at, ov_at]
  split <;> rfl
theorem ov_n2 (I sc : MI) (a b : Nat) (v : Int32) (h : isScr a b = false) : up2 (ovX I sc) a b v = ovX (up2 I a b v) sc := by
  funext x y
  rw [up2_at2, ov_at, ov_at, up2_at2]
  by_cases h1 : x = a ∧ y = b
  · obtain ⟨rfl, rfl⟩ := h1
    rw [if_pos ⟨rfl, rfl⟩, if_neg (by rw [h]; decide), if_pos ⟨rfl, rfl⟩]
  · rw [if_neg h1, if_neg h1]
theorem ov_nc (I sc : MI) (a : Nat) (G : Nat → Int32) (h : ∀ b, isScr a b = false) : upc (ovX I sc) a G = ovX (upc I a G) sc := by
  funext x y
  rw [upc_at, ov_at, ov_at, upc_at]
  by_cases h1 : x = a
  · subst h1
    rw [if_pos rfl, if_neg (by rw [h]; decide), if_pos rfl]
  · rw [if_neg h1, if_neg h1]
/-- the same for doubles -/
def isScD (a b : Nat) : Bool := (a == 12 && b == 17) || (a == 12 && b == 31) || a == 29 || a == 40 || a == 90 || a == 102
def ovD (D sd : MD) : MD := upc (upc (upc (upc (up2 (up2 D 12 17 (sd 12 17)) 12 31 (sd 12 31)) 29 (sd 29)) 40 (sd 40)) 90 (sd 90)) 102 (sd 102)
theorem od_at (D sd : MD) (a b : Nat) : ovD D sd a b = if isScD a b = true then sd a b else D a b := by
  unfold ovD isScD
  simp only [up2_at2, upc_at, Bool.or_eq_true, Bool.and_eq_true, beq_iff_eq]
  by_cases h102 : a = 102
  · subst h102
    simp
  by_cases h90 : a = 90
  · subst h90
    simp
  by_cases h40 : a = 40
  · subst h40
    simp
  by_cases h29 : a = 29
  · subst h29
    simp
  by_cases k31 : a = 12 ∧ b = 31
  · obtain ⟨rfl, rfl⟩ := k31
    simp
  by_cases k17 : a = 12 ∧ b = 17
  · obtain ⟨rfl, rfl⟩ := k17
    simp
  simp only [h102, h90, h40, h29, k31, k17, if_false, or_self, false_or, or_false]
theorem od_up2 (D sd : MD) (a b : Nat) (v : UInt64) (h : isScD a b = true) : up2 (ovD D sd) a b v = ovD D (up2 sd a b v) := by
  funext x y
  rw [up2_at2, od_at, od_at, up2_at2]
  by_cases h1 : x = a ∧ y = b
  · obtain ⟨rfl, rfl⟩ := h1
    rw [if_pos ⟨rfl, rfl⟩, if_pos h, if_pos ⟨rfl, rfl⟩]
  · rw [if_neg h1, if_neg h1]
theorem od_upc (D sd : MD) (a : Nat) (G : Nat → UInt64) (h : ∀ b, isScD a b = true) : upc (ovD D sd) a G = ovD D (upc sd a G) := by
  funext x y
  rw [upc_at, od_at, od_at, upc_at]
  by_cases h1 : x = a
  · subst h1
    rw [if_pos rfl, if_pos (h y), if_pos rfl]
  · rw [if_neg h1, if_neg h1]
theorem od_id (D : MD) : ovD D D = D := by
  funext x y
  rw [od_at]
  split <;> rfl
theorem od_n2 (D sd : MD) (a b : Nat) (v : UInt64) (h : isScD a b = false) : up2 (ovD D sd) a b v = ovD (up2 D a b v) sd := by
  funext x y
  rw [up2_at2, od_at, od_at, up2_at2]
  by_cases h1 : x = a ∧ y = b
  · obtain ⟨rfl, rfl⟩ := h1
    rw [if_pos ⟨rfl, rfl⟩, if_neg (by rw [h]; decide), if_pos ⟨rfl, rfl⟩]
  · rw [if_neg h1, if_neg h1]
theorem od_nc (D sd : MD) (a : Nat) (G : Nat → UInt64) (h : ∀ b, isScD a b = false) : upc (ovD D sd) a G = ovD (upc D a G) sd := by
  funext x y
  rw [upc_at, od_at, od_at, upc_at]
  by_cases h1 : x = a
  · subst h1
    rw [if_pos rfl, if_neg (by rw [h]; decide), if_pos rfl]
  · rw [if_neg h1, if_neg h1]
/-- an answer r; the contents I, D but for scratch -/
def Sc (r : Option Value) (I : MI) (D : MD) : Po := fun o J E => o = r ∧ ∃ sc sd, J = ovX I sc ∧ E = ovD D sd
theorem sc_of {r : Option Value} {I : MI} {D : MD} {sc : MI} {sd : MD} : Sc r I D r (ovX I sc) (ovD D sd) := ⟨rfl, sc, sd, rfl, rfl⟩
theorem sc_by {r o : Option Value} {I J : MI} {D E : MD} {sc : MI} {sd : MD} (h : o = r) (hI : J = ovX I sc) (hD : E = ovD D sd) : Sc r I D o J E := ⟨h, sc, sd, hI, hD⟩
theorem call_sc {g : Gp} {d mid : Nat} {As : List Value} {I0 I : MI} {D0 D : MD} {r : Option Value} {k : Po} (hC : Con g SHc d mid As I0 D0 (Sc r I D)) (hk : ∀ sc sd, k r (ovX I sc) (ovD D sd)) : CaD g SHc (d + 1) mid As I0 D0 k :=
  ⟨_, hC, fun o J E h => by obtain ⟨rfl, sc, sd, rfl, rfl⟩ := h; exact hk sc sd⟩
theorem con_mono {g : Gp} {d mid : Nat} {As : List Value} {I : MI} {D : MD} {P Q : Po} (hC : Con g SHc d mid As I D P) (h : ∀ o J E, P o J E → Q o J E) : Con g SHc d mid As I D Q := by
  intro q hq
  refine MetFree.mono (hC q hq) (fun _ _ h => h) (fun _ _ _ _ _ h => h) (fun a s o t _ hh => ⟨?_, hh.2⟩)
  obtain ⟨⟨r, I', D', e1, hp, hv⟩, hf⟩ := hh.1
  exact ⟨⟨r, I', D', e1, h _ _ _ hp, hv⟩, hf⟩
