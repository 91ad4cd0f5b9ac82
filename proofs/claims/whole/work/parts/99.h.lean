/-! stream -/
theorem Pair.es {g : Gp} {mx mm : Nat} {As : List Value} {I I1 I2 : MI} {D D1 D2 : MD} {rX rM : Option Value} {n m tk fd h q sp ms np : Nat} (hX : Con g SHc 20 mx (.ref 0 :: As) I D (EqP rX I1 D1)) (hM : ∀ sc sd, Con g SHc 20 mm (.ref 12 :: As) (ovX I1 sc) (ovD D1 sd) (Sc rM I2 D2)) (hr : rX = rM) (hR : RelP I2 D2 n m tk fd h q sp ms np) (ht : okO (isLg mx) rX := by exact True.intro) : Pair g mx mm As I D := by
  refine ⟨_, hX, ?_⟩
  rintro o J E ⟨rfl, rfl, rfl⟩
  have h9 := hM J E
  rw [ov_id, od_id] at h9
  refine ⟨ht, _, h9, ?_⟩
  rintro o' J' E' ⟨rfl, sc2, sd2, rfl, rfl⟩
  exact ⟨hr.symm, n, m, tk, fd, h, q, sp, ms, np, rel_ov hR sc2 sd2⟩
section SA6
variable (g : Gp) (I : MI) (D : MD)
theorem p_stream (hr : Rel I D) (s t : Int32) : Pair g 67 197 [.int s, .int t] I D := by
  obtain ⟨n, m, tk, fd, h, q, sp, ms, np, H⟩ := hr
  obtain ⟨-, -, -, -, w5, w6, w7, -, w9, -, -⟩ := id H.wat
  have h1 := wat_1 H.wat
  have hX := c_X_stream g 17 I D (WX_of H.wat).1 s t
  have hM := fun J a1 sc sd => c_M_stream g 17 J D a1 s t sc sd
  unfold mwX hwX at hX
  unfold mwM hwM at hM
  rw [w5, w6, w7, w9, H.fin.1] at hX
  have key : ∀ J, eqM J I → J 12 2 = I 12 2 → (∀ s, s < 12 → ∃ c, c ≤ 40 ∧ J 97 s = nI c) → ∀ sc sd, Con g SHc 20 197 [.ref 12, .int s, .int t] (ovX J sc) (ovD D sd) (Sc (some (.int (stA (wi s 0 11 && wi t 0 2591999 && !decide (3000 ≤ I 12 2)) (spl (fun i => I 98 (40 * s.toNatClampNeg + i)) (fun i => I 99 (40 * s.toNatClampNeg + i)) s.toNatClampNeg t (I 97 s.toNatClampNeg).toNatClampNeg) (I 101)))) (stI (wi s 0 11 && wi t 0 2591999 && !decide (3000 ≤ I 12 2)) (spl (fun i => I 98 (40 * s.toNatClampNeg + i)) (fun i => I 99 (40 * s.toNatClampNeg + i)) s.toNatClampNeg t (I 97 s.toNatClampNeg).toNatClampNeg) J (tellM (-(spl (fun i => I 98 (40 * s.toNatClampNeg + i)) (fun i => I 99 (40 * s.toNatClampNeg + i)) s.toNatClampNeg t (I 97 s.toNatClampNeg).toNatClampNeg)) J)) D) := by
    intro J e k1 a1 sc sd
    have h9 := hM J a1 sc sd
    rw [k1, e.q_waterMoment, e.q_isHigh, e.q_waters, e.q_streams] at h9
    exact h9
  have hX2 : Con g SHc 20 67 [.ref 0, .int s, .int t] I D (EqP (some (.int (stA (wi s 0 11 && wi t 0 2591999 && !decide (3000 ≤ I 12 2)) (spl (fun i => I 98 (40 * s.toNatClampNeg + i)) (fun i => I 99 (40 * s.toNatClampNeg + i)) s.toNatClampNeg t (I 97 s.toNatClampNeg).toNatClampNeg) (I 101)))) (stI (wi s 0 11 && wi t 0 2591999 && !decide (3000 ≤ I 12 2)) (spl (fun i => I 98 (40 * s.toNatClampNeg + i)) (fun i => I 99 (40 * s.toNatClampNeg + i)) s.toNatClampNeg t (I 97 s.toNatClampNeg).toNatClampNeg) I (tellX (-(spl (fun i => I 98 (40 * s.toNatClampNeg + i)) (fun i => I 99 (40 * s.toNatClampNeg + i)) s.toNatClampNeg t (I 97 s.toNatClampNeg).toNatClampNeg)) I)) D) := hX
  generalize spl (fun i => I 98 (40 * s.toNatClampNeg + i)) (fun i => I 99 (40 * s.toNatClampNeg + i)) s.toNatClampNeg t (I 97 s.toNatClampNeg).toNatClampNeg = P at hX2 key
  cases c1 : (wi s 0 11 && wi t 0 2591999 && !decide (3000 ≤ I 12 2)) with
  | false =>
    rw [c1] at hX2 key
    exact Pair.es hX2 (key I (eqM_r I) rfl h1) rfl H
  | true =>
    rw [c1] at hX2 key
    by_cases c2 : P < 0
    · have e1 : ∀ str, stA true P str = 2143289344 := fun str => if_pos c2
      have e2 : ∀ A B, stI true P A B = B := fun A B => if_pos c2
      rw [e1, e2] at hX2
      have hM := key (tellX (-P) I) (eqM_te _) rfl h1
      rw [e1, e2] at hM
      exact Pair.es hX2 hM rfl (rel_fin H _)
    · have e1 : ∀ str : Nat → Int32, stA true P str = str P.toNatClampNeg := fun str => if_neg c2
      have e2 : ∀ A B, stI true P A B = A := fun A B => if_neg c2
      rw [e1, e2] at hX2
      have hM := key I (eqM_r I) rfl h1
      rw [e1, e2] at hM
      exact Pair.es hX2 hM rfl H
end SA6
