/-! member, join -/
section S93
variable (g : Gp) (I : MI) (D : MD)
theorem fl_X {I : MI} {ms : Nat} (H : RFle I ms) : ∀ j, j < 4 → ∃ n, n ≤ 8 ∧ I 57 j = nI n := fun j hj => by
  rcases H j hj with ⟨-, z, -⟩ | ⟨-, n, h1, h2, -⟩
  · exact ⟨0, by omega, by rw [z, nI_0]⟩
  · exact ⟨n, h1, h2⟩
theorem fl_M {I : MI} {ms : Nat} (H : RFle I ms) : ∀ j, j < 4 → ∃ n, n ≤ 8 ∧ (I 111 j = -1 ∨ I 111 j = nI n) := fun j hj => by
  rcases H j hj with ⟨-, -, z⟩ | ⟨-, n, h1, -, h2, -⟩
  · exact ⟨0, by omega, Or.inl z⟩
  · exact ⟨n, h1, Or.inr h2⟩
theorem fl_ff {I : MI} {ms f : Nat} (H : RFle I ms) (hf : f < 4) (i : Int32) : ffA (I 55 f) i (I 57 f) = ffA (bI (!decide (I 111 f = -1))) i (I 111 f) := by
  rcases H f hf with ⟨z1, z2, z3⟩ | ⟨z1, n, h1, h2, h3, -⟩
  · rw [z1, z2, z3]
    unfold ffA
    rw [if_pos rfl, if_pos (by decide)]
  · rw [z1, h2, h3, decide_eq_false (nI_neg1 (by omega))]
    rfl
theorem fl_at {I : MI} {ms f : Nat} (H : RFle I ms) (hf : f < 4) {i : Int32} (h : ffA (bI (!decide (I 111 f = -1))) i (I 111 f) = 0) : ∃ n j, n ≤ 8 ∧ j < n ∧ i = nI j ∧ I 55 f = 1 ∧ I 57 f = nI n ∧ I 111 f = nI n ∧ I 56 f = I 110 f ∧ I 58 (8 * f + j) = I 112 (8 * f + j) := by
  rcases H f hf with ⟨z1, z2, z3⟩ | ⟨z1, n, h1, h2, h3, h4, -, h5⟩
  · rw [z3] at h
    unfold ffA at h
    rw [if_pos (by decide)] at h
    exact absurd h (by decide)
  · rw [h3, decide_eq_false (nI_neg1 (by omega))] at h
    unfold ffA at h
    rw [if_neg (by decide)] at h
    split at h
    next c =>
      obtain ⟨j, hj, rfl⟩ := ix_nI (show n < 2 ^ 31 by omega) c
      exact ⟨n, j, h1, hj, rfl, z1, h2, h3, h4, (h5 j hj).1⟩
    next => exact absurd h (by decide)
theorem p_member (hr : Rel I D) (f i : Int32) : Pair g 98 220 [.int f, .int i] I D := by
  obtain ⟨n, m, tk, fd, h, q, sp, ms, np, H⟩ := hr
  have fm := fl_M H.fle
  have hX := c_X_member g 19 I D (fl_X H.fle) f i
  rw [H.fin.1] at hX
  split at hX
  next c1 =>
    obtain ⟨ff, hff, rfl⟩ := wi_nI (m := 3) (by decide) c1
    have fc : (nI ff).toNatClampNeg = ff := nI_clamp (by omega)
    rw [fc, fl_ff H.fle (by omega)] at hX
    have hM := fun J h1 => ci_p (c_M_member g 18 J D h1 (nI ff) i) c1
    rw [fc] at hM
    split at hX
    next c2 => exact Pair.mk hX (ci_p (hM I fm) c2) rfl ⟨n, m, tk, fd, h, q, sp, ms, np, H⟩
    next c2 =>
      split at hX
      next c3 =>
        obtain ⟨n', j, hn', hj, rfl, -, -, -, -, e⟩ := fl_at H.fle (by omega) c3
        rw [nI_clamp (show j < 2 ^ 31 by omega), e] at hX
        have hM := ci_p (ci_n (hM I fm) c2) c3
        rw [nI_clamp (show j < 2 ^ 31 by omega)] at hM
        exact Pair.mk hX hM rfl ⟨n, m, tk, fd, h, q, sp, ms, np, H⟩
      next c3 => exact Pair.mk hX (ci_n (ci_n (hM (tellX (ffA (bI (!decide (I 111 ff = -1))) i (I 111 ff)) I) fm) c2) c3) rfl ⟨n, m, tk, fd, h, q, sp, ms, np, rel_fin H _⟩
  next c1 => exact Pair.mk hX (ci_n (c_M_member g 18 I D fm f i) c1) rfl ⟨n, m, tk, fd, h, q, sp, ms, np, H⟩
theorem p_join (hr : Rel I D) (f i sh : Int32) : Pair g 95 217 [.int f, .int i, .int sh] I D := by
  obtain ⟨n, m, tk, fd, h, q, sp, ms, np, H⟩ := hr
  obtain ⟨hms, hS1, hS2, k1, -⟩ := H.shp
  have fm := fl_M H.fle
  have hX := c_X_join g 17 I D (fl_X H.fle) ms hms hS1 f i sh
  rw [H.fin.1, k1] at hX
  split at hX
  next c1 =>
    have hM := fun J h1 h2 => ci_p (c_M_join g 17 J D h1 ms hms h2 f i sh) c1
    rw [Bool.and_eq_true] at c1
    obtain ⟨ff, hff, rfl⟩ := wi_nI (m := 3) (by decide) c1.1
    have fc : (nI ff).toNatClampNeg = ff := nI_clamp (by omega)
    rw [fc, fl_ff H.fle (by omega)] at hX
    rw [fc] at hM
    split at hX
    next c2 => exact Pair.mk hX (ci_p (hM I fm hS2) c2) rfl ⟨n, m, tk, fd, h, q, sp, ms, np, H⟩
    next c2 =>
      split at hX
      next c3 =>
        obtain ⟨n', j, hn', hj, rfl, z1, z2, z3, z4, e⟩ := fl_at H.fle (by omega) c3
        rw [z4] at hX
        have jc : (nI j).toNatClampNeg = j := nI_clamp (by omega)
        rw [jc] at hX hM
        split at hX
        next c4 =>
          have hM := ci_p (ci_p (ci_n (hM (up2 I 58 (8 * ff + j) sh) fm hS2) c2) c3) c4
          refine Pair.mk hX hM rfl ⟨n, m, tk, fd, h, q, sp, ms, np, ⟨H.now, H.fin, H.dra, H.sur, H.cnt, H.gau, H.sho, H.wat, H.shp, H.tra, ?_, H.rou, H.win, H.pas⟩⟩
          intro x hx
          show (I 55 x = 0 ∧ I 57 x = 0 ∧ I 111 x = -1) ∨ (I 55 x = 1 ∧ ∃ n, n ≤ 8 ∧ I 57 x = nI n ∧ I 111 x = nI n ∧ I 56 x = I 110 x ∧ wi (I 110 x) 0 5 = true ∧ ∀ i, i < n → up2 I 58 (8 * ff + j) sh 58 (8 * x + i) = up2 I 112 (8 * ff + j) sh 112 (8 * x + i) ∧ shN (up2 I 112 (8 * ff + j) sh 112 (8 * x + i)) ms = true)
          rcases H.fle x hx with z | ⟨z1, n', z2, z3, z4, z5, z6, z7⟩
          · exact Or.inl z
          · refine Or.inr ⟨z1, n', z2, z3, z4, z5, z6, fun i hi => ?_⟩
            by_cases e : 8 * x + i = 8 * ff + j
            · rw [e, up2_at, up2_at]
              exact ⟨rfl, c1.2⟩
            · rw [up2_off e, up2_off e]
              exact z7 i hi
        next c4 => exact Pair.mk hX (ci_n (ci_p (ci_n (hM (tellX 6 I) fm hS2) c2) c3) c4) rfl ⟨n, m, tk, fd, h, q, sp, ms, np, rel_fin H _⟩
      next c3 => exact Pair.mk hX (ci_n (ci_n (hM (tellX (ffA (bI (!decide (I 111 ff = -1))) i (I 111 ff)) I) fm hS2) c2) c3) rfl ⟨n, m, tk, fd, h, q, sp, ms, np, rel_fin H _⟩
  next c1 => exact Pair.mk hX (ci_n (c_M_join g 17 I D fm ms hms hS2 f i sh) c1) rfl ⟨n, m, tk, fd, h, q, sp, ms, np, H⟩
theorem stF_c {P Q : Nat → Int32} {f : Nat} : ∀ {n : Nat}, (∀ i, i < n → P (8 * f + i) = Q (8 * f + i)) → stF P f n = stF Q f n
  | 0, _ => rfl
  | n + 1, h => by
    unfold stF
    rw [stF_c (n := n) (fun i hi => h i (by omega)), h n (by omega)]
theorem p_shared (hr : Rel I D) (f c : Int32) : Pair g 103 222 [.int f, .int c] I D := by
  obtain ⟨n, m, tk, fd, h, q, sp, ms, np, H⟩ := hr
  have fm := fl_M H.fle
  have hX := c_X_shared g 19 I D (fl_X H.fle) f c
  rw [H.fin.1] at hX
  split at hX
  next c1 =>
    have hM := fun J h1 => ci_p (c_M_shared g 18 J D h1 f c) c1
    rw [Bool.and_eq_true] at c1
    obtain ⟨ff, hff, rfl⟩ := wi_nI (m := 3) (by decide) c1.1
    have fc : (nI ff).toNatClampNeg = ff := nI_clamp (by omega)
    rw [fc] at hX hM
    split at hX
    next c2 => exact Pair.mk hX (ci_p (hM I fm) c2) rfl ⟨n, m, tk, fd, h, q, sp, ms, np, H⟩
    next c2 =>
      rcases H.fle ff (by omega) with ⟨z1, z2, z3⟩ | ⟨z1, n', z2, z3, z4, z5, z6, z7⟩
      · have hX := ci_p hX z1
        exact Pair.mk hX (ci_p (ci_n (hM (tellX 1 I) fm) c2) z3) rfl ⟨n, m, tk, fd, h, q, sp, ms, np, rel_fin H _⟩
      · have c3 : ¬ I 111 ff = -1 := by rw [z4]; exact nI_neg1 (by omega)
        have e : stF (I 58) ff n' = stF (I 112) ff n' := stF_c (fun i hi => (z7 i hi).1)
        have n'c : (nI n').toNatClampNeg = n' := nI_clamp (by omega)
        have en : (I 111 ff).toNatClampNeg = n' := by rw [z4, n'c]
        have hX := ci_n hX (show ¬ I 55 ff = 0 by rw [z1]; decide)
        rw [z3, n'c, e] at hX
        rw [← en] at hX
        split at hX
        next c4 => exact Pair.mk hX (ci_p (ci_n (ci_n (hM (tellX 4 I) fm) c2) c3) c4) rfl ⟨n, m, tk, fd, h, q, sp, ms, np, rel_fin H _⟩
        next c4 => exact Pair.mk hX (ci_n (ci_n (ci_n (hM (up2 I 0 12 (c / nI (stF (I 112) ff (I 111 ff).toNatClampNeg))) fm) c2) c3) c4) rfl ⟨n, m, tk, fd, h, q, sp, ms, np, ⟨H.now, H.fin, H.dra, H.sur, H.cnt, H.gau, H.sho, H.wat, H.shp, ⟨rfl, H.tra.2⟩, H.fle, H.rou, H.win, H.pas⟩⟩
  next c1 => exact Pair.mk hX (ci_n (c_M_shared g 18 I D fm f c) c1) rfl ⟨n, m, tk, fd, h, q, sp, ms, np, H⟩
end S93
