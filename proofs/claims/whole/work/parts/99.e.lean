/-! range -/
section SA3
variable (g : Gp) (I : MI) (D : MD)
theorem wat_1 {I : MI} {D : MD} {sp : Nat} (h : RWat I D sp) : ∀ s, s < 12 → ∃ c, c ≤ 40 ∧ I 97 s = nI c := fun s hs => by
  obtain ⟨-, -, -, -, -, -, -, -, -, -, w11⟩ := h
  obtain ⟨c, h1, h2, -⟩ := w11 s hs
  exact ⟨c, h1, h2⟩
end SA3
