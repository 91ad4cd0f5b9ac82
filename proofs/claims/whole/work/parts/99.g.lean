/-! spring, stream -/
section SA5
variable (g : Gp) (I : MI) (D : MD)
theorem p_spring (hr : Rel I D) (s l : Int32) : Pair g 64 195 [.int s, .int l] I D := by
  obtain ⟨n, m, tk, fd, h, q, sp, ms, np, H⟩ := hr
  obtain ⟨-, -, -, -, w5, -, w7, w8, -, -, -⟩ := id H.wat
  have h1 := wat_1 H.wat
  have hX := c_X_spring g 18 I D (by rw [w5]; exact h1) (fun s c _ _ j _ => by rw [w8.1]; exact w8.2 _) s l
  have hM := c_M_spring g 18 I D h1 (fun s c _ _ j _ => (w8.2 _).1) s l
  have e : spX I D s.toNatClampNeg (!decide (l = 0)) = spM I D s.toNatClampNeg (!decide (l = 0)) := by
    unfold spX spM
    have e1 : (fun i => rgX (D 39 (40 * s.toNatClampNeg + i)) (D 39 (40 * s.toNatClampNeg + i + 1))) = (fun i => rgM (D 100 (40 * s.toNatClampNeg + i)) (D 100 (40 * s.toNatClampNeg + i + 1))) := by
      funext i
      rw [w8.1, rg_eq (w8.2 _).2 (w8.2 _).2]
    rw [e1, w7]
  rw [e, w5] at hX
  exact Pair.mk hX hM rfl ⟨n, m, tk, fd, h, q, sp, ms, np, H⟩
end SA5
