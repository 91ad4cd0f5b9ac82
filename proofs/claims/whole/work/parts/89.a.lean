/-! clear, again, passage, tide -/
theorem usF_no {rt st : Nat → Int32} {r : Int32} : ∀ {n : Nat}, ¬ usF rt st r n = true → ∀ q, q < n → rt q = r → st q = -1
  | 0, _, q, hq, _ => absurd hq (Nat.not_lt_zero _)
  | n + 1, h, q, hq, e => by
    unfold usF at h
    rw [Bool.or_eq_true, not_or] at h
    rcases Nat.lt_or_ge q n with z | z
    · exact usF_no h.1 q z e
    · have : q = n := by omega
      subst this
      have h2 := h.2
      rw [decide_eq_true e, Bool.true_and] at h2
      exact Decidable.byContradiction (fun y => h2 (by rw [decide_eq_false y]; rfl))
section S89
variable (g : Gp) (I : MI) (D : MD)
theorem p_clear (hr : Rel I D) (r : Int32) : Pair g 111 226 [.int r] I D := by
  obtain ⟨n, m, tk, fd, h, q, sp, ms, np, H⟩ := hr
  obtain ⟨a1, a2, a3, a4, a5, a6, a7, a8⟩ := H.rou
  obtain ⟨hPX, hPM, b1, b2, b3, b4, b5, b6, b7, b8, b9⟩ := H.pas
  have hX := c_X_clear g 19 I D np hPX.1 hPX.2.1 r
  rw [b2, b5, a1] at hX
  split at hX
  next c1 =>
    split at hX
    next c2 => exact Pair.mk hX (ci_p (ci_p (c_M_clear g 18 I D np hPM.1 hPM.2.1 r) c1) c2) rfl ⟨n, m, tk, fd, h, q, sp, ms, np, H⟩
    next c2 =>
      have hM := ci_n (ci_p (c_M_clear g 18 (up2 I 50 r.toNatClampNeg 0) D np hPM.1 hPM.2.1 r) c1) c2
      obtain ⟨rr, hrr, rfl⟩ := wi_nI (m := 5) (by decide) c1
      have rc : (nI rr).toNatClampNeg = rr := nI_clamp (by omega)
      rw [rc] at hX hM
      have r1 : up2 (up2 I 50 rr 0) 117 rr 0 50 = up2 (up2 I 50 rr 0) 117 rr 0 117 := by
        show up2 I 50 rr 0 50 = up2 I 117 rr 0 117
        exact row2 a1
      have r5 : RX (up2 (up2 I 50 rr 0) 117 rr 0) := by
        intro x hx
        show ∃ l, l ≤ 4 ∧ up2 I 50 rr 0 50 x = nI l ∧ _
        by_cases e : x = rr
        · subst e
          exact ⟨0, by omega, by rw [up2_at, nI_0], fun i hi => absurd hi (Nat.not_lt_zero _)⟩
        · rw [up2_off e]
          exact a5 x hx
      have r6 : RM (up2 (up2 I 50 rr 0) 117 rr 0) := by
        intro x hx
        show ∃ l, l ≤ 4 ∧ up2 I 117 rr 0 117 x = nI l ∧ _
        by_cases e : x = rr
        · subst e
          exact ⟨0, by omega, by rw [up2_at, nI_0], fun i hi => absurd hi (Nat.not_lt_zero _)⟩
        · rw [up2_off e]
          exact a6 x hx
      have r8 : HC (up2 (up2 I 50 rr 0) 117 rr 0) (I 129) np := by
        intro x hx hs
        show ∀ j, j < (up2 I 50 rr 0 50 (I 63 x).toNatClampNeg).toNatClampNeg → _
        have hne : ¬ (I 63 x).toNatClampNeg = rr := by
          intro z
          obtain ⟨s', r', f', -, -, hr', hre', -⟩ := hPX.2.2 x hx
          rw [hre', nI_clamp (show r' < 2 ^ 31 by omega)] at z
          subst z
          have hs : ¬ I 66 x = -1 := hs
          rw [b5] at hs
          rw [b2] at hre'
          exact hs (usF_no c2 x hx hre')
        rw [up2_off hne]
        exact b8 x hx hs
      exact Pair.mk hX hM rfl ⟨n, m, tk, fd, h, q, sp, ms, np, ⟨H.now, H.fin, H.dra, H.sur, H.cnt, H.gau, H.sho, H.wat, H.shp, H.tra, H.fle, ⟨r1, a2, a3, a4, r5, r6, a7, a8⟩, H.win, ⟨hPX, hPM, b1, b2, b3, b4, b5, b6, b7, r8, b9⟩⟩⟩
  next c1 => exact Pair.mk hX (ci_n (c_M_clear g 18 I D np hPM.1 hPM.2.1 r) c1) rfl ⟨n, m, tk, fd, h, q, sp, ms, np, H⟩
theorem p_again (hr : Rel I D) (p : Int32) : Pair g 137 246 [.int p] I D := by
  obtain ⟨n, m, tk, fd, h, q, sp, ms, np, H⟩ := hr
  obtain ⟨hPX, hPM, b1, b2, b3, b4, b5, b6, b7, b8, b9⟩ := H.pas
  have hX := c_X_again g 19 I D np hPX.1 hPX.2.1 p
  rw [b6, H.now.1] at hX
  split at hX
  next c1 =>
    split at hX
    next c2 =>
      have hM := ci_p (ci_p (c_M_again g 18 (agn 67 65 66 I p.toNatClampNeg (I 12 0)) D np hPM.1 hPM.2.1 p) c1) c2
      generalize p.toNatClampNeg = j at hX hM
      have hM : Con g SHc 20 246 [.ref 12, .int p] (agn 67 65 66 I j (I 12 0)) D (EqP (some (.int 1)) (agn 126 127 128 (agn 67 65 66 I j (I 12 0)) j (I 12 0)) D) := hM
      generalize I 12 0 = nw at hX hM
      have r4 : agn 126 127 128 (agn 67 65 66 I j nw) j nw 65 = agn 126 127 128 (agn 67 65 66 I j nw) j nw 127 := by
        show up2 I 65 j nw 65 = up2 I 127 j nw 127
        exact row2 b4
      have r5 : agn 126 127 128 (agn 67 65 66 I j nw) j nw 66 = agn 126 127 128 (agn 67 65 66 I j nw) j nw 128 := by
        show up2 I 66 j (-1) 66 = up2 I 128 j (-1) 128
        exact row2 b5
      have r6 : agn 126 127 128 (agn 67 65 66 I j nw) j nw 67 = agn 126 127 128 (agn 67 65 66 I j nw) j nw 126 := by
        show up2 I 67 j 1 67 = up2 I 126 j 1 126
        exact row2 b6
      have r7 : WS np (up2 I 126 j 1 126) (up2 I 128 j (-1) 128) (I 129) := by
        intro x hx
        by_cases e : x = j
        · subst e
          rw [up2_at, up2_at]
          exact ⟨fun _ => rfl, fun z => absurd rfl z⟩
        · rw [up2_off e, up2_off e]
          exact b7 x hx
      have r8 : HC (agn 126 127 128 (agn 67 65 66 I j nw) j nw) (I 129) np := by
        intro x hx
        show ¬ up2 I 66 j (-1) 66 x = -1 → ∀ i, i < (I 50 (I 63 x).toNatClampNeg).toNatClampNeg → I 68 (4 * x + i) = 60 * up2 I 66 j (-1) 66 x + I 52 (4 * (I 63 x).toNatClampNeg + i) * 100 / I 129 x
        by_cases e : x = j
        · subst e
          rw [up2_at]
          exact fun z => absurd rfl z
        · rw [up2_off e]
          exact b8 x hx
      exact Pair.mk hX hM rfl ⟨n, m, tk, fd, h, q, sp, ms, np, ⟨H.now, H.fin, H.dra, H.sur, H.cnt, H.gau, H.sho, H.wat, H.shp, H.tra, H.fle, H.rou, H.win, ⟨hPX, hPM, b1, b2, b3, r4, r5, r6, r7, r8, b9⟩⟩⟩
    next c2 => exact Pair.mk hX (ci_n (ci_p (c_M_again g 18 I D np hPM.1 hPM.2.1 p) c1) c2) rfl ⟨n, m, tk, fd, h, q, sp, ms, np, H⟩
  next c1 => exact Pair.mk hX (ci_n (c_M_again g 18 I D np hPM.1 hPM.2.1 p) c1) rfl ⟨n, m, tk, fd, h, q, sp, ms, np, H⟩
theorem p_tide (hr : Rel I D) (s k v : Int32) (hv : vn_sni2f v = false) : Pair g 66 196 [.int s, .int k, .int v] I D := by
  obtain ⟨n, m, tk, fd, h, q, sp, ms, np, H⟩ := hr
  obtain ⟨w1, w2, w3, w4, w5, w6, w7, w8, w9, w10, w11⟩ := H.wat
  have hX := c_X_tide g 19 I D s k v
  split at hX
  next c1 =>
    have hM := c_M_tide g 17 (up2 I 41 (13 * s.toNatClampNeg + (k + 6).toNatClampNeg) v) D s k v hv
    unfold tdM at hM
    have hM := ci_p hM c1
    rw [Bool.and_eq_true] at c1
    generalize 13 * s.toNatClampNeg + (k + 6).toNatClampNeg = j at hX hM
    have hnf : noF v = false := by
      have c2 := of_decide_eq_true c1.2
      unfold noF
      rw [decide_eq_false_iff_not, i32_lt, show ((2139095040 : Int32)).toInt = 2139095040 by decide]
      rw [i32_le, show ((1101004800 : Int32)).toInt = 1101004800 by decide] at c2
      omega
    have r9 : up2 (up2 I 41 j v) 101 j v 41 = up2 (up2 I 41 j v) 101 j v 101 := by
      show up2 I 41 j v 41 = up2 I 101 j v 101
      exact row2 w9
    have r10 : ∀ x, x < 156 → noF (up2 (up2 I 41 j v) 101 j v 101 x) = false := by
      intro x hx
      show noF (up2 I 101 j v 101 x) = false
      exact up2_q (fun w => noF w = false) hnf (w10 x hx)
    exact Pair.mk hX hM rfl ⟨n, m, tk, fd, h, q, sp, ms, np, ⟨H.now, H.fin, H.dra, H.sur, H.cnt, H.gau, H.sho, ⟨w1, w2, w3, w4, w5, w6, w7, w8, r9, r10, w11⟩, H.shp, H.tra, H.fle, H.rou, H.win, H.pas⟩⟩
  next c1 =>
    have hM := c_M_tide g 17 I D s k v hv
    unfold tdM at hM
    exact Pair.mk hX (ci_n hM c1) rfl ⟨n, m, tk, fd, h, q, sp, ms, np, H⟩
end S89
