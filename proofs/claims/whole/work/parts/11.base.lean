/-! words for contracts -/
def EqP (r : Option Value) (I : MI) (D : MD) : Po := fun o J E => o = r ∧ J = I ∧ E = D
theorem call_eq {g : Gp} {d mid : Nat} {As : List Value} {I I' : MI} {D D' : MD} {r : Option Value} {k : Po} (hC : Con g SHc d mid As I D (EqP r I' D')) (hk : k r I' D') : CaD g SHc (d + 1) mid As I D k :=
  ⟨_, hC, fun o J E h => by obtain ⟨rfl, rfl, rfl⟩ := h; exact hk⟩
theorem call_of {g : Gp} {d mid : Nat} {As : List Value} {I : MI} {D : MD} {Post k : Po} (hC : Con g SHc d mid As I D Post) (hk : ∀ o I' D', Post o I' D' → k o I' D') : CaD g SHc (d + 1) mid As I D k := ⟨_, hC, hk⟩
/-- a truth value as the machine keeps it -/
def bI (b : Bool) : Int32 := match b with
  | true => 1
  | false => 0
theorem bI_0 {b : Bool} : bI b = 0 ↔ b = false := by cases b <;> simp [bI]
theorem bI_n0 {b : Bool} : ¬ bI b = 0 ↔ b = true := by cases b <;> simp [bI]
theorem bI_1 {b : Bool} : bI b = 1 ↔ b = true := by cases b <;> simp [bI]
theorem bI_01 (b : Bool) : bI b = 0 ∨ bI b = 1 := by cases b <;> simp [bI]
/-- v lies from a to b -/
def wi (v a b : Int32) : Bool := decide (a ≤ v) && decide (v ≤ b)
theorem i32_lt {a b : Int32} : a < b ↔ a.toInt < b.toInt := Int32.lt_iff_toInt_lt
theorem i32_le {a b : Int32} : a ≤ b ↔ a.toInt ≤ b.toInt := Int32.le_iff_toInt_le
theorem i32_nlt {a b : Int32} : ¬ a < b ↔ b ≤ a := by rw [i32_lt, i32_le]; omega
theorem i32_nle {a b : Int32} : ¬ a ≤ b ↔ b < a := by rw [i32_lt, i32_le]; omega
