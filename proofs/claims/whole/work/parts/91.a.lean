/-! shoal, dredge, passage -/
section S91
variable (g : Gp) (I : MI) (D : MD)
theorem p_shoal (hr : Rel I D) (s bd lk : Int32) : Pair g 41 180 [.int s, .int bd, .int lk] I D := by
  obtain ⟨n, m, tk, fd, h, q, sp, ms, np, H⟩ := hr
  obtain ⟨s1, s2, s3, s4, s5, s6, s7, s8⟩ := H.sho
  obtain ⟨kx, km, hq, d1, d2⟩ := H.cnt
  obtain ⟨x1, x2, x3, x4, x5, x6, x7⟩ := id kx
  obtain ⟨y1, y2, y3, y4, y5, y6, y7⟩ := id km
  have hX := c_X_shoal g 18 I D h (h + q) x6 (fun _ => by omega) x7 x5 s bd lk
  rw [H.now.1] at hX
  split at hX
  next c1 =>
    split at hX
    next c2 =>
      have hM := ci_p (ci_p (c_M_shoal g 18 (shX I h (h + q) s bd lk (I 12 0)) D h (h + q) y6 (fun _ => by omega) y7 y5 s bd lk) c1) c2
      rw [Bool.and_eq_true, Bool.and_eq_true] at c1
      obtain ⟨ss, hss, hse⟩ := wi_nI (m := 11) (by decide) c1.1.1
      obtain ⟨ll, hll, hle⟩ := wi_nI (m := 7200) (by decide) c1.2
      obtain ⟨S, hS⟩ : ∃ S, S = shM (shX I h (h + q) s bd lk (I 12 0)) h (h + q) s bd lk := ⟨_, rfl⟩
      rw [← hS] at hM
      have r1 : S 30 = S 91 := by
        rw [hS]
        show up2 I 30 h s 30 = up2 I 91 h s 91
        exact row2 s1
      have r2 : S 31 = S 92 := by
        rw [hS]
        show up2 I 31 h lk 31 = up2 I 92 h lk 92
        exact row2 s2
      have r3 : S 32 = S 93 := by
        rw [hS]
        show up2 I 32 (h + q) (nI h) 32 = up2 I 93 (h + q) (nI h) 93
        exact row2 s3
      have r4 : S 33 = S 94 := by
        rw [hS]
        show up2 I 33 (h + q) 0 33 = up2 I 94 (h + q) 0 94
        exact row2 s4
      have r5 : S 34 = S 95 := by
        rw [hS]
        show up2 I 34 (h + q) (I 12 0) 34 = up2 I 95 (h + q) (I 12 0) 95
        exact row2 s5
      have r6 : S 35 = S 96 := by
        rw [hS]
        show up2 I 35 (h + q) bd 35 = up2 I 96 (h + q) bd 96
        exact row2 s6
      have r7 : ∀ x, x < 16 → ∃ s, s < 12 ∧ S 91 x = nI s := by
        intro x hx
        rw [hS]
        show ∃ s', s' < 12 ∧ up2 I 91 h s 91 x = nI s'
        exact up2_q (fun w => ∃ s', s' < 12 ∧ w = nI s') ⟨ss, by omega, hse⟩ (s7 x hx)
      have r8 : LKM S := by
        intro x hx
        rw [hS]
        show 0 ≤ (up2 I 92 h lk 92 x).toInt
        exact up2_q (fun w => 0 ≤ w.toInt) (by rw [hle, nI_toInt (by omega)]; omega) (s8 x hx)
      have K1 : KX S n m tk fd (h + 1 + q) (h + 1) := by
        refine ⟨by rw [hS]; exact x1, by rw [hS]; exact x2, by rw [hS]; exact x3, by omega, ?_, by omega, by rw [hS]; rfl⟩
        rw [hS]
        show nI (h + 1) + I 4 9 = nI (h + 1 + q)
        rw [d1, nI_add]
      have K2 : KM S n m tk fd (h + 1 + q) (h + 1) := by
        refine ⟨by rw [hS]; exact y1, by rw [hS]; exact y2, by rw [hS]; exact y3, by omega, ?_, by omega, by rw [hS]; rfl⟩
        rw [hS]
        show nI (h + q + 1) = nI (h + 1 + q)
        congr 1
        omega
      obtain ⟨a1, a2, a3, a4, a5, a6, a7, a8⟩ := H.rou
      have rX : RX S := by
        intro x hx
        obtain ⟨l, hl, hle, hlg⟩ := a5 x hx
        refine ⟨l, hl, by rw [hS]; exact hle, fun i hi => ?_⟩
        obtain ⟨q', s', a', u1, u2, u3, u4, u5, u6⟩ := hlg i hi
        obtain ⟨s2, v1, v2⟩ := r7 q' u1
        rw [← r1] at v2
        exact ⟨q', s2, a', u1, by rw [hS]; exact u2, v1, v2, u5, by rw [hS]; exact u6⟩
      have rM : RM S := by
        intro x hx
        obtain ⟨l, hl, hle, hlg⟩ := a6 x hx
        refine ⟨l, hl, by rw [hS]; exact hle, fun i hi => ?_⟩
        obtain ⟨q', s', a', u1, u2, u3, u4, u5, u6, u7⟩ := hlg i hi
        obtain ⟨s2, v1, v2⟩ := r7 q' u1
        exact ⟨q', s2, a', u1, by rw [hS]; exact u2, v1, v2, u5, by rw [hS]; exact u6, by rw [hS]; exact u7⟩
      refine Pair.mk hX hM rfl ⟨n, m, tk, fd, h + 1, q, sp, ms, np, ⟨?_, ?_, ?_, ?_, ⟨K1, K2, hq, ?_, ?_⟩, ?_, ⟨r1, r2, r3, r4, r5, r6, r7, r8⟩, ?_, ?_, ?_, ?_, ⟨?_, ?_, ?_, ?_, rX, rM, ?_, ?_⟩, ?_, ?_⟩⟩
      · rw [hS]; exact H.now
      · rw [hS]; exact H.fin
      · rw [hS]; exact H.dra
      · rw [hS]; exact H.sur
      · rw [hS]; exact d1
      · rw [hS]; exact d2
      · rw [hS]; exact H.gau
      · rw [hS]; exact H.wat
      · rw [hS]; exact H.shp
      · rw [hS]; exact H.tra
      · rw [hS]; exact H.fle
      · rw [hS]; exact a1
      · rw [hS]; exact a2
      · rw [hS]; exact a3
      · rw [hS]; exact a4
      · rw [hS]; exact a7
      · rw [hS]; exact a8
      · rw [hS]; exact H.win
      · rw [hS]; exact H.pas
    next c2 => exact Pair.mk hX (ci_n (ci_p (c_M_shoal g 18 I D h (h + q) y6 (fun _ => by omega) y7 y5 s bd lk) c1) c2) rfl ⟨n, m, tk, fd, h, q, sp, ms, np, H⟩
  next c1 => exact Pair.mk hX (ci_n (c_M_shoal g 18 I D h (h + q) y6 (fun _ => by omega) y7 y5 s bd lk) c1) rfl ⟨n, m, tk, fd, h, q, sp, ms, np, H⟩
theorem p_dredge (hr : Rel I D) (s dy bd : Int32) : Pair g 45 182 [.int s, .int dy, .int bd] I D := by
  obtain ⟨n, m, tk, fd, h, q, sp, ms, np, H⟩ := hr
  obtain ⟨s1, s2, s3, s4, s5, s6, s7, s8⟩ := H.sho
  obtain ⟨kx, km, hq, d1, d2⟩ := H.cnt
  obtain ⟨x1, x2, x3, x4, x5, x6, x7⟩ := id kx
  obtain ⟨y1, y2, y3, y4, y5, y6, y7⟩ := id km
  have hX := c_X_dredge g 18 I D h q (h + q) x6 hq (fun _ => by omega) x7 d1 x5 s dy bd
  rw [H.now.1] at hX
  split at hX
  next c1 =>
    split at hX
    next c2 =>
      have hM := ci_p (ci_p (c_M_dredge g 18 (drX I q (h + q) s dy bd (I 12 0)) D h q (h + q) y6 hq (fun _ => by omega) y7 d2 y5 s dy bd) c1) c2
      obtain ⟨S, hS⟩ : ∃ S, S = drM (drX I q (h + q) s dy bd (I 12 0)) q (h + q) s dy bd := ⟨_, rfl⟩
      rw [← hS] at hM
      have r3 : S 32 = S 93 := by
        rw [hS]
        show up2 I 32 (h + q) s 32 = up2 I 93 (h + q) s 93
        exact row2 s3
      have r4 : S 33 = S 94 := by
        rw [hS]
        show up2 I 33 (h + q) dy 33 = up2 I 94 (h + q) dy 94
        exact row2 s4
      have r5 : S 34 = S 95 := by
        rw [hS]
        show up2 I 34 (h + q) (I 12 0) 34 = up2 I 95 (h + q) (I 12 0) 95
        exact row2 s5
      have r6 : S 35 = S 96 := by
        rw [hS]
        show up2 I 35 (h + q) bd 35 = up2 I 96 (h + q) bd 96
        exact row2 s6
      have K1 : KX S n m tk fd (h + (q + 1)) h := by
        refine ⟨by rw [hS]; exact x1, by rw [hS]; exact x2, by rw [hS]; exact x3, by omega, ?_, by omega, by rw [hS]; exact x7⟩
        rw [hS]
        show I 4 8 + nI (q + 1) = nI (h + (q + 1))
        rw [x7, nI_add]
      have K2 : KM S n m tk fd (h + (q + 1)) h := ⟨by rw [hS]; exact y1, by rw [hS]; exact y2, by rw [hS]; exact y3, by omega, by rw [hS]; rfl, by omega, by rw [hS]; exact y7⟩
      refine Pair.mk hX hM rfl ⟨n, m, tk, fd, h, q + 1, sp, ms, np, ⟨?_, ?_, ?_, ?_, ⟨K1, K2, by omega, by rw [hS]; rfl, by rw [hS]; rfl⟩, ?_, ⟨?_, ?_, r3, r4, r5, r6, ?_, ?_⟩, ?_, ?_, ?_, ?_, ?_, ?_, ?_⟩⟩
      · rw [hS]; exact H.now
      · rw [hS]; exact H.fin
      · rw [hS]; exact H.dra
      · rw [hS]; exact H.sur
      · rw [hS]; exact H.gau
      · rw [hS]; exact s1
      · rw [hS]; exact s2
      · rw [hS]; exact s7
      · rw [hS]; exact s8
      · rw [hS]; exact H.wat
      · rw [hS]; exact H.shp
      · rw [hS]; exact H.tra
      · rw [hS]; exact H.fle
      · rw [hS]; exact H.rou
      · rw [hS]; exact H.win
      · rw [hS]; exact H.pas
    next c2 => exact Pair.mk hX (ci_n (ci_p (c_M_dredge g 18 I D h q (h + q) y6 hq (fun _ => by omega) y7 d2 y5 s dy bd) c1) c2) rfl ⟨n, m, tk, fd, h, q, sp, ms, np, H⟩
  next c1 => exact Pair.mk hX (ci_n (c_M_dredge g 18 I D h q (h + q) y6 hq (fun _ => by omega) y7 d2 y5 s dy bd) c1) rfl ⟨n, m, tk, fd, h, q, sp, ms, np, H⟩
end S91
