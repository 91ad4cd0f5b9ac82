/-! at the beginning the relation holds -/
theorem fb0 : fb 300 0 := ⟨false, 0, -1074, by decide +kernel, by simp⟩
theorem nz0 : nz 0 := by unfold nz; decide
set_option maxRecDepth 20000 in
theorem rel0 : Rel Iz Dz := by
  have z : ∀ {j : Nat} {P : Prop}, j < 0 → P := fun h => absurd h (Nat.not_lt_zero _)
  refine ⟨0, 0, 5, 12, 0, 0, 10, 0, 0, ⟨rfl, 0, by decide, rfl⟩, ⟨rfl, rfl⟩, ⟨rfl, rfl, fun s _ => ⟨0, by decide, rfl, fun j hj => z hj⟩⟩, ⟨rfl, rfl, rfl, rfl, rfl, fun s _ => ⟨0, by decide, rfl, fun j hj => z hj⟩⟩, ?_, ?_, ?_, ?_, ?_, ?_, ?_, ?_, ?_, ?_⟩
  · exact ⟨⟨⟨by decide, rfl, fun i hi => z hi⟩, ⟨by decide, rfl, fun i hi => z hi⟩, ⟨by decide, rfl, by decide, by decide, rfl⟩, ⟨by decide, rfl, by decide, rfl⟩⟩, ⟨⟨by decide, rfl, fun i hi => z hi⟩, ⟨by decide, rfl, fun i hi => z hi⟩, ⟨by decide, rfl, by decide, by decide, rfl⟩, ⟨by decide, rfl, by decide, rfl⟩⟩, by decide, rfl, rfl⟩
  · exact ⟨rfl, rfl, rfl, rfl, rfl, rfl, rfl, fun x hx => absurd (show noF 0 = true from hx) (by decide), fun x => Or.inl rfl, fun j _ => ⟨0, by decide, rfl⟩⟩
  · exact ⟨rfl, rfl, rfl, rfl, rfl, rfl, fun q _ => ⟨0, by decide, rfl⟩, fun q _ => show 0 ≤ (0 : Int32).toInt by decide⟩
  · exact ⟨rfl, by decide, rfl, rfl, rfl, rfl, rfl, ⟨rfl, fun x => ⟨fb0, nz0⟩⟩, rfl, fun j _ => show noF 0 = false by decide, fun s _ => ⟨0, by decide, rfl, fun j hj => z hj⟩⟩
  · exact ⟨by decide, rfl, rfl, rfl, rfl, rfl, rfl, rfl, rfl, rfl, fun j hj => z hj, fun j hj => z hj, fun j hj => z hj⟩
  · exact ⟨rfl, rfl, 0, by decide, rfl, rfl⟩
  · intro f hf
    refine Or.inl ⟨rfl, rfl, ?_⟩
    rcases (show f = 0 ∨ f = 1 ∨ f = 2 ∨ f = 3 by omega) with rfl | rfl | rfl | rfl <;> rfl
  · exact ⟨rfl, rfl, rfl, rfl, fun r _ => ⟨0, by decide, rfl, fun i hi => z hi⟩, fun r _ => ⟨0, by decide, rfl, fun i hi => z hi⟩, rfl, rfl⟩
  · exact ⟨rfl, rfl, 0, by decide, rfl, rfl, fun i hi => z hi⟩
  · exact ⟨⟨by decide, rfl, fun i hi => z hi⟩, ⟨by decide, rfl, fun i hi => z hi⟩, rfl, rfl, rfl, rfl, rfl, rfl, fun i hi => z hi, fun i hi => z hi, rfl, rfl, rfl, rfl, rfl⟩
