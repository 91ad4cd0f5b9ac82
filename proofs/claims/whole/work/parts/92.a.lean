/-! passage, fleet, member, join -/
section S92
variable (g : Gp) (I : MI) (D : MD)
theorem p_passage (hr : Rel I D) (sh rt mi : Int32) : Pair g 124 237 [.int sh, .int rt, .int mi] I D := by
  obtain ⟨n, m, tk, fd, h, q, sp, ms, np, H⟩ := hr
  obtain ⟨hPX, hPM, b1, b2, b3, b4, b5, b6, b7, b8, b9⟩ := H.pas
  obtain ⟨hms, hS1, hS2, -⟩ := H.shp
  have t1 : I 11 13 = nI np := hPX.2.1
  have t2 : I 12 78 = nI np := hPM.2.1
  have hn40 := hPX.1
  have hX := c_X_passage g 18 I D np ms hPX.1 hms t1 hS1 sh rt mi
  rw [H.now.1] at hX
  split at hX
  next c1 =>
    split at hX
    next c2 =>
      have hM := ci_p (ci_p (c_M_passage g 18 (psg 62 63 64 67 65 66 11 13 I sh rt mi (I 12 0)) D np ms hPM.1 hms t2 hS2 sh rt mi) c1) c2
      rw [Bool.and_eq_true, Bool.and_eq_true] at c1
      obtain ⟨s0, hs0, hse⟩ := ix_nI (show ms < 2 ^ 31 by omega) c1.1.1
      obtain ⟨r0, hr0, hre⟩ := wi_nI (m := 5) (by decide) c1.1.2
      obtain ⟨f0, hf0, hfe⟩ := wi_nI (m := 43199) (by decide) c1.2
      have nc : (nI np).toNatClampNeg = np := nI_clamp (by omega)
      obtain ⟨S, hS⟩ : ∃ S, S = psg 123 124 125 126 127 128 12 78 (psg 62 63 64 67 65 66 11 13 I sh rt mi (I 12 0)) sh rt mi (psg 62 63 64 67 65 66 11 13 I sh rt mi (I 12 0) 12 0) := ⟨_, rfl⟩
      rw [← hS] at hM
      have g1 : S 62 = up2 I 62 np sh 62 := by
        rw [hS]
        show up2 I 62 (I 11 13).toNatClampNeg sh 62 = _
        rw [t1, nc]
      have m1 : S 123 = up2 I 123 np sh 123 := by
        rw [hS]
        show up2 I 123 (I 12 78).toNatClampNeg sh 123 = _
        rw [t2, nc]
      have g2 : S 63 = up2 I 63 np rt 63 := by
        rw [hS]
        show up2 I 63 (I 11 13).toNatClampNeg rt 63 = _
        rw [t1, nc]
      have m2 : S 124 = up2 I 124 np rt 124 := by
        rw [hS]
        show up2 I 124 (I 12 78).toNatClampNeg rt 124 = _
        rw [t2, nc]
      have g3 : S 64 = up2 I 64 np mi 64 := by
        rw [hS]
        show up2 I 64 (I 11 13).toNatClampNeg mi 64 = _
        rw [t1, nc]
      have m3 : S 125 = up2 I 125 np mi 125 := by
        rw [hS]
        show up2 I 125 (I 12 78).toNatClampNeg mi 125 = _
        rw [t2, nc]
      have g4 : S 65 = up2 I 65 np (I 12 0) 65 := by
        rw [hS]
        show up2 I 65 (I 11 13).toNatClampNeg (I 12 0) 65 = _
        rw [t1, nc]
      have m4 : S 127 = up2 I 127 np (I 12 0) 127 := by
        rw [hS]
        show up2 I 127 (I 12 78).toNatClampNeg (I 12 0) 127 = _
        rw [t2, nc]
      have g5 : S 66 = up2 I 66 np (-1) 66 := by
        rw [hS]
        show up2 I 66 (I 11 13).toNatClampNeg (-1) 66 = _
        rw [t1, nc]
      have m5 : S 128 = up2 I 128 np (-1) 128 := by
        rw [hS]
        show up2 I 128 (I 12 78).toNatClampNeg (-1) 128 = _
        rw [t2, nc]
      have g6 : S 67 = up2 I 67 np 1 67 := by
        rw [hS]
        show up2 I 67 (I 11 13).toNatClampNeg 1 67 = _
        rw [t1, nc]
      have m6 : S 126 = up2 I 126 np 1 126 := by
        rw [hS]
        show up2 I 126 (I 12 78).toNatClampNeg 1 126 = _
        rw [t2, nc]
      have mp : S 129 = I 129 := by
        rw [hS]
        rfl
      have pX : PX S (np + 1) ms := by
        refine ⟨by omega, ?_, fun x hx => ?_⟩
        · rw [hS]
          show I 11 13 + 1 = nI (np + 1)
          rw [t1, nI_1]
        · rw [g1, g2, g3]
          by_cases e : x = np
          · subst e
            exact ⟨s0, r0, f0, hs0, by rw [up2_at]; exact hse, by omega, by rw [up2_at]; exact hre, by omega, by rw [up2_at]; exact hfe⟩
          · rw [up2_off e, up2_off e, up2_off e]
            exact hPX.2.2 x (by omega)
      have pM : PM S (np + 1) ms := by
        refine ⟨by omega, ?_, fun x hx => ?_⟩
        · rw [hS]
          show I 12 78 + 1 = nI (np + 1)
          rw [t2, nI_1]
        · rw [m1, m2, m3]
          by_cases e : x = np
          · subst e
            exact ⟨s0, r0, f0, hs0, by rw [up2_at]; exact hse, by omega, by rw [up2_at]; exact hre, by omega, by rw [up2_at]; exact hfe⟩
          · rw [up2_off e, up2_off e, up2_off e]
            exact hPM.2.2 x (by omega)
      have w7 : WS (np + 1) (S 126) (S 128) (S 129) := by
        intro x hx
        rw [m6, m5, mp]
        by_cases e : x = np
        · subst e
          rw [up2_at, up2_at]
          exact ⟨fun _ => rfl, fun z => absurd rfl z⟩
        · rw [up2_off e, up2_off e]
          exact b7 x (by omega)
      have w8 : HC S (S 129) (np + 1) := by
        intro x hx
        rw [mp, g5, g2]
        have u1 : S 50 = I 50 := by rw [hS]; rfl
        have u2 : S 52 = I 52 := by rw [hS]; rfl
        have u3 : S 68 = I 68 := by rw [hS]; rfl
        rw [u1, u2, u3]
        by_cases e : x = np
        · subst e
          rw [up2_at]
          exact fun z => absurd rfl z
        · rw [up2_off e, up2_off e]
          exact b8 x (by omega)
      have w9 : (S 69 = fun _ => 0) ∧ (S 131 = fun _ => 0) ∧ S 11 15 = 0 ∧ S 11 16 = S 12 89 ∧ S 11 14 = S 12 88 := by
        rw [hS]
        exact b9
      refine Pair.mk hX hM rfl ⟨n, m, tk, fd, h, q, sp, ms, np + 1, ⟨?_, ?_, ?_, ?_, ?_, ?_, ?_, ?_, ?_, ?_, ?_, ?_, ?_, ⟨pX, pM, by rw [g1, m1]; exact row2 b1, by rw [g2, m2]; exact row2 b2, by rw [g3, m3]; exact row2 b3, by rw [g4, m4]; exact row2 b4, by rw [g5, m5]; exact row2 b5, by rw [g6, m6]; exact row2 b6, w7, w8, w9⟩⟩⟩
      · rw [hS]; exact H.now
      · rw [hS]; exact H.fin
      · rw [hS]; exact H.dra
      · rw [hS]; exact H.sur
      · rw [hS]; exact H.cnt
      · rw [hS]; exact H.gau
      · rw [hS]; exact H.sho
      · rw [hS]; exact H.wat
      · rw [hS]; exact H.shp
      · rw [hS]; exact H.tra
      · rw [hS]; exact H.fle
      · rw [hS]; exact H.rou
      · rw [hS]; exact H.win
    next c2 => exact Pair.mk hX (ci_n (ci_p (c_M_passage g 18 I D np ms hPM.1 hms t2 hS2 sh rt mi) c1) c2) rfl ⟨n, m, tk, fd, h, q, sp, ms, np, H⟩
  next c1 => exact Pair.mk hX (ci_n (c_M_passage g 18 I D np ms hPM.1 hms t2 hS2 sh rt mi) c1) rfl ⟨n, m, tk, fd, h, q, sp, ms, np, H⟩
theorem clP_c (c f n : Nat) : clP c f I n = upc I c (fun j => if 8 * f ≤ j ∧ j < 8 * f + n then -1 else I c j) := by
  funext k j
  rw [upc_at]
  by_cases h : k = c
  · subst h
    rw [if_pos rfl, clP_r]
  · rw [if_neg h, clP_o c f I h]
theorem p_fleet (hr : Rel I D) (f so k : Int32) : Pair g 92 215 [.int f, .int so, .int k] I D := by
  obtain ⟨n, m, tk, fd, h, q, sp, ms, np, H⟩ := hr
  have hX := c_X_fleet g 19 I D f so k
  rw [H.fin.1] at hX
  split at hX
  next c1 =>
    split at hX
    next c2 => exact Pair.mk hX (ci_p (ci_p (c_M_fleet g 18 I D f so k) c1) c2) rfl ⟨n, m, tk, fd, h, q, sp, ms, np, H⟩
    next c2 =>
      split at hX
      next c3 => exact Pair.mk hX (ci_p (ci_n (ci_p (c_M_fleet g 18 (tellX 5 I) D f so k) c1) c2) c3) rfl ⟨n, m, tk, fd, h, q, sp, ms, np, rel_fin H _⟩
      next c3 =>
        unfold mkX at hX
        rw [clP_c] at hX
        have hM := fun J hc2 => ci_n (ci_n (ci_p (c_M_fleet g 18 J D f so k) c1) hc2) c3
        unfold mkM at hM
        rw [Bool.and_eq_true, Bool.and_eq_true] at c1
        obtain ⟨ff, hff, rfl⟩ := wi_nI (m := 3) (by decide) c1.1.1
        obtain ⟨kk, hkk31, rfl⟩ := nI_of (x := k) c3
        have hkk : kk ≤ 8 := (nI_leI hkk31 (by decide)).mp (of_decide_eq_true c1.2)
        have fc : (nI ff).toNatClampNeg = ff := nI_clamp (by omega)
        have kc : (nI kk).toNatClampNeg = kk := nI_clamp (by omega)
        rw [fc, kc] at hX hM
        have hM := hM (upc (up2 (up2 (up2 I 55 ff 1) 56 ff so) 57 ff (nI kk)) 58 (fun j => if 8 * ff ≤ j ∧ j < 8 * ff + kk then -1 else up2 (up2 (up2 I 55 ff 1) 56 ff so) 57 ff (nI kk) 58 j)) c2
        rw [clP_c] at hM
        refine Pair.mk hX hM rfl ⟨n, m, tk, fd, h, q, sp, ms, np, ⟨H.now, H.fin, H.dra, H.sur, H.cnt, H.gau, H.sho, H.wat, H.shp, H.tra, ?_, H.rou, H.win, H.pas⟩⟩
        intro x hx
        show (up2 I 55 ff 1 55 x = 0 ∧ up2 I 57 ff (nI kk) 57 x = 0 ∧ up2 I 111 ff (nI kk) 111 x = -1) ∨ (up2 I 55 ff 1 55 x = 1 ∧ ∃ n, n ≤ 8 ∧ up2 I 57 ff (nI kk) 57 x = nI n ∧ up2 I 111 ff (nI kk) 111 x = nI n ∧ up2 I 56 ff so 56 x = up2 I 110 ff so 110 x ∧ wi (up2 I 110 ff so 110 x) 0 5 = true ∧ ∀ i, i < n → (if 8 * ff ≤ 8 * x + i ∧ 8 * x + i < 8 * ff + kk then (-1 : Int32) else I 58 (8 * x + i)) = (if 8 * ff ≤ 8 * x + i ∧ 8 * x + i < 8 * ff + 8 then (-1 : Int32) else I 112 (8 * x + i)) ∧ shN (if 8 * ff ≤ 8 * x + i ∧ 8 * x + i < 8 * ff + 8 then (-1 : Int32) else I 112 (8 * x + i)) ms = true)
        by_cases e : x = ff
        · subst e
          rw [up2_at, up2_at, up2_at, up2_at, up2_at]
          refine Or.inr ⟨rfl, kk, hkk, rfl, rfl, rfl, c1.1.2, fun i hi => ?_⟩
          rw [if_pos (by omega), if_pos (by omega)]
          exact ⟨rfl, rfl⟩
        · rw [up2_off e, up2_off e, up2_off e, up2_off e, up2_off e]
          rcases H.fle x hx with z | ⟨z1, n', z2, z3, z4, z5, z6, z7⟩
          · exact Or.inl z
          · refine Or.inr ⟨z1, n', z2, z3, z4, z5, z6, fun i hi => ?_⟩
            rw [if_neg (by omega), if_neg (by omega)]
            exact z7 i hi
  next c1 => exact Pair.mk hX (ci_n (c_M_fleet g 18 I D f so k) c1) rfl ⟨n, m, tk, fd, h, q, sp, ms, np, H⟩
end S92
