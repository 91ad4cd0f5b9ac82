/-! wave, survey -/
section S90
variable (g : Gp) (I : MI) (D : MD)
theorem wv_x (s n : Nat) (a b c : Int32) (x : Nat) : wvM (wvX I s n a b c) s n a b c 15 x = if x = 24 * s + 3 * n + 2 then c else if x = 24 * s + 3 * n + 1 then b else if x = 24 * s + 3 * n then a else I 15 x := by
  show up2 (up2 (up2 I 15 (24 * s + 3 * n) a) 15 (24 * s + 3 * n + 1) b) 15 (24 * s + 3 * n + 2) c 15 x = _
  simp only [up2_at2, true_and]
theorem wv_m (s n : Nat) (a b c : Int32) (x : Nat) : wvM (wvX I s n a b c) s n a b c 72 x = (if x = 8 * s + n then a else I 72 x) ∧ wvM (wvX I s n a b c) s n a b c 73 x = (if x = 8 * s + n then b else I 73 x) ∧ wvM (wvX I s n a b c) s n a b c 74 x = (if x = 8 * s + n then c else I 74 x) := by
  refine ⟨?_, ?_, ?_⟩
  · show up2 I 72 (8 * s + n) a 72 x = _
    simp only [up2_at2, true_and]
  · show up2 I 73 (8 * s + n) b 73 x = _
    simp only [up2_at2, true_and]
  · show up2 I 74 (8 * s + n) c 74 x = _
    simp only [up2_at2, true_and]
theorem p_wave (hr : Rel I D) (s a b c : Int32) : Pair g 6 153 [.int s, .int a, .int b, .int c] I D := by
  obtain ⟨n, m, tk, fd, h, q, sp, ms, np, H⟩ := hr
  obtain ⟨e1, e2, e3⟩ := H.dra
  have hW : ∀ j, j < 12 → ∃ n, n ≤ 8 ∧ I 71 j = nI n := fun j hj => by
    obtain ⟨w, h1, h2, -⟩ := e3 j hj
    exact ⟨w, h1, h2⟩
  have hX := c_X_wave g 19 I D s a b c (by rw [e2]; exact hW)
  rw [e2] at hX
  split at hX
  next c1 =>
    split at hX
    next c2 =>
      have hM := ci_p (ci_p (c_M_wave g 18 (wvX I s.toNatClampNeg (I 71 s.toNatClampNeg).toNatClampNeg a b c) D s a b c hW) c1) c2
      rw [Bool.and_eq_true, Bool.and_eq_true, Bool.and_eq_true] at c1
      obtain ⟨ss, hss, rfl⟩ := wi_nI (m := 11) (by decide) c1.1.1.1
      have sc : (nI ss).toNatClampNeg = ss := nI_clamp (by omega)
      rw [sc] at hX hM c2
      have hM : Con g SHc 20 153 [.ref 12, .int (nI ss), .int a, .int b, .int c] (wvX I ss (I 71 ss).toNatClampNeg a b c) D (EqP (some (.int (nI ((I 71 ss).toNatClampNeg + 1)))) (wvM (wvX I ss (I 71 ss).toNatClampNeg a b c) ss (I 71 ss).toNatClampNeg a b c) D) := hM
      obtain ⟨w, hw8, hwe, hrow⟩ := e3 ss (by omega)
      have wc : (nI w).toNatClampNeg = w := nI_clamp (by omega)
      rw [hwe, wc] at hX hM c2
      have r2 : wvM (wvX I ss w a b c) ss w a b c 14 = wvM (wvX I ss w a b c) ss w a b c 71 := by
        show up2 I 14 ss (nI (w + 1)) 14 = up2 I 71 ss (nI (w + 1)) 71
        exact row2 e2
      refine Pair.mk hX hM rfl ⟨n, m, tk, fd, h, q, sp, ms, np, ⟨H.now, H.fin, ⟨e1, r2, ?_⟩, H.sur, H.cnt, H.gau, H.sho, H.wat, H.shp, H.tra, H.fle, H.rou, H.win, H.pas⟩⟩
      intro x hx
      show ∃ w', w' ≤ 8 ∧ up2 I 71 ss (nI (w + 1)) 71 x = nI w' ∧ _
      by_cases e : x = ss
      · subst e
        refine ⟨w + 1, by omega, by rw [up2_at], fun j hj => ?_⟩
        rw [wv_x, wv_x, wv_x, (wv_m I x w a b c _).1, (wv_m I x w a b c _).2.1, (wv_m I x w a b c _).2.2]
        by_cases ej : j = w
        · subst ej
          rw [if_neg (by omega), if_neg (by omega), if_pos rfl, if_pos rfl, if_neg (by omega), if_pos rfl, if_pos rfl, if_pos rfl, if_pos rfl]
          exact ⟨rfl, rfl, rfl⟩
        · rw [if_neg (by omega), if_neg (by omega), if_neg (by omega), if_neg (by omega), if_neg (by omega), if_neg (by omega), if_neg (by omega), if_neg (by omega), if_neg (by omega), if_neg (by omega), if_neg (by omega), if_neg (by omega)]
          exact hrow j (by omega)
      · rw [up2_off e]
        obtain ⟨w2, h1, h2, h3⟩ := e3 x hx
        refine ⟨w2, h1, h2, fun j hj => ?_⟩
        rw [wv_x, wv_x, wv_x, (wv_m I ss w a b c _).1, (wv_m I ss w a b c _).2.1, (wv_m I ss w a b c _).2.2]
        rw [if_neg (by omega), if_neg (by omega), if_neg (by omega), if_neg (by omega), if_neg (by omega), if_neg (by omega), if_neg (by omega), if_neg (by omega), if_neg (by omega), if_neg (by omega), if_neg (by omega), if_neg (by omega)]
        exact h3 j hj
    next c2 => exact Pair.mk hX (ci_n (ci_p (c_M_wave g 18 I D s a b c hW) c1) c2) rfl ⟨n, m, tk, fd, h, q, sp, ms, np, H⟩
  next c1 => exact Pair.mk hX (ci_n (c_M_wave g 18 I D s a b c hW) c1) rfl ⟨n, m, tk, fd, h, q, sp, ms, np, H⟩
theorem cpX_c (s n i : Nat) : cpX I s n i = upc I 21 (fun j => if 24 * n ≤ j ∧ j < 24 * n + i then I 15 (24 * s + (j - 24 * n)) else I 21 j) := by
  funext k j
  rw [upc_at]
  by_cases h : k = 21
  · subst h
    rw [if_pos rfl, cpX_r]
  · rw [if_neg h, cpX_o I s n h]
theorem cpM_c (s n i : Nat) : cpM I s n i = upc (upc (upc I 80 (fun j => if 8 * n ≤ j ∧ j < 8 * n + i then I 72 (8 * s + (j - 8 * n)) else I 80 j)) 81 (fun j => if 8 * n ≤ j ∧ j < 8 * n + i then I 73 (8 * s + (j - 8 * n)) else I 81 j)) 82 (fun j => if 8 * n ≤ j ∧ j < 8 * n + i then I 74 (8 * s + (j - 8 * n)) else I 82 j) := by
  funext k j
  rw [upc_at, upc_at, upc_at]
  by_cases h3 : k = 82
  · subst h3
    rw [if_pos rfl]
    exact (cpM_r I s n j i).2.2
  · rw [if_neg h3]
    by_cases h2 : k = 81
    · subst h2
      rw [if_pos rfl]
      exact (cpM_r I s n j i).2.1
    · rw [if_neg h2]
      by_cases h1 : k = 80
      · subst h1
        rw [if_pos rfl]
        exact (cpM_r I s n j i).1
      · rw [if_neg h1, cpM_o I s n h1 h2 h3]
/-- what survey() leaves, in the cells -/
def sx1 (I : MI) (s n : Nat) (dy nw : Int32) : MI := up2 (up2 (up2 (upc (svX0 I (nI s) dy nw) 21 (fun j => if 24 * n ≤ j ∧ j < 24 * n + 24 then I 15 (24 * s + (j - 24 * n)) else I 21 j)) 13 s 0) 14 s 0) 2 9 (nI (n + 1))
theorem sx1_e (s n : Nat) (dy nw : Int32) : svX I s n dy nw = sx1 I s n dy nw := by
  unfold svX sx1
  rw [cpX_c]
  rfl
def sm1 (I : MI) (s n w : Nat) (dy : Int32) : MI := up2 (up2 (up2 (upc (upc (upc (svM0 I (nI s) dy) 80 (fun j => if 8 * n ≤ j ∧ j < 8 * n + w then I 72 (8 * s + (j - 8 * n)) else I 80 j)) 81 (fun j => if 8 * n ≤ j ∧ j < 8 * n + w then I 73 (8 * s + (j - 8 * n)) else I 81 j)) 82 (fun j => if 8 * n ≤ j ∧ j < 8 * n + w then I 74 (8 * s + (j - 8 * n)) else I 82 j)) 70 s 0) 71 s 0) 12 8 (nI (n + 1))
theorem sm1_e (s n w : Nat) (dy : Int32) : svM I s n w dy = sm1 I s n w dy := by
  unfold svM sm1
  rw [cpM_c]
  rfl
theorem p_survey (hr : Rel I D) (s dy : Int32) : Pair g 8 154 [.int s, .int dy] I D := by
  obtain ⟨n, m, tk, fd, h, q, sp, ms, np, H⟩ := hr
  obtain ⟨e1, e2, e3⟩ := H.dra
  obtain ⟨f1, f2, f3, f4, f5, f6⟩ := H.sur
  have hW : ∀ j, j < 12 → ∃ n, n ≤ 8 ∧ I 71 j = nI n := fun j hj => by
    obtain ⟨w, h1, h2, -⟩ := e3 j hj
    exact ⟨w, h1, h2⟩
  have t1 : I 2 9 = nI n := H.cnt.1.1.2.1
  have t2 : I 12 8 = nI n := H.cnt.2.1.1.2.1
  have hn60 : n ≤ 60 := H.cnt.1.1.1
  have hX := c_X_survey g 19 I D s dy n hn60 t1
  rw [H.now.1] at hX
  split at hX
  next c1 =>
    split at hX
    next c2 =>
      rw [sx1_e] at hX
      have hM := ci_p (ci_p (c_M_survey g 18 (sx1 I s.toNatClampNeg n dy (I 12 0)) D s dy n hn60 t2 hW) c1) c2
      rw [sm1_e] at hM
      rw [Bool.and_eq_true] at c1
      obtain ⟨ss, hss, rfl⟩ := wi_nI (m := 11) (by decide) c1.1
      have sc : (nI ss).toNatClampNeg = ss := nI_clamp (by omega)
      have nc : (nI n).toNatClampNeg = n := nI_clamp (by omega)
      rw [sc] at hX hM
      obtain ⟨w, hw8, hwe, hrow⟩ := e3 ss (by omega)
      have wc : (nI w).toNatClampNeg = w := nI_clamp (by omega)
      have ew : (sx1 I ss n dy (I 12 0) 71 ss).toNatClampNeg = w := by
        show (I 71 ss).toNatClampNeg = w
        rw [hwe, wc]
      rw [ew] at hM
      obtain ⟨S, hS⟩ : ∃ S, S = sm1 (sx1 I ss n dy (I 12 0)) ss n w dy := ⟨_, rfl⟩
      rw [← hS] at hM
      have u1 : I 13 ss = I 70 ss := by rw [e1]
      have u2 : I 14 ss = I 71 ss := by rw [e2]
      have r1 : S 16 = S 75 := by
        rw [hS]
        show up2 I 16 (I 2 9).toNatClampNeg (nI ss) 16 = up2 I 75 (I 12 8).toNatClampNeg (nI ss) 75
        rw [t1, t2]; exact row2 f1
      have r2 : S 17 = S 76 := by
        rw [hS]
        show up2 I 17 (I 2 9).toNatClampNeg dy 17 = up2 I 76 (I 12 8).toNatClampNeg dy 76
        rw [t1, t2]; exact row2 f2
      have r3 : S 18 = S 77 := by
        rw [hS]
        show up2 I 18 (I 2 9).toNatClampNeg (I 12 0) 18 = up2 I 77 (I 12 8).toNatClampNeg (I 12 0) 77
        rw [t1, t2]; exact row2 f3
      have r4 : S 19 = S 78 := by
        rw [hS]
        show up2 I 19 (I 2 9).toNatClampNeg (I 13 (nI ss).toNatClampNeg) 19 = up2 I 78 (I 12 8).toNatClampNeg (I 70 (nI ss).toNatClampNeg) 78
        rw [t1, t2, e1]; exact row2 f4
      have r5 : S 20 = S 79 := by
        rw [hS]
        show up2 I 20 (I 2 9).toNatClampNeg (I 14 (nI ss).toNatClampNeg) 20 = up2 I 79 (I 12 8).toNatClampNeg (I 71 (nI ss).toNatClampNeg) 79
        rw [t1, t2, e2]; exact row2 f5
      have q5 : ∀ x, S 79 x = if x = n then nI w else I 79 x := by
        intro x
        rw [hS]
        show up2 I 79 (I 12 8).toNatClampNeg (I 71 (nI ss).toNatClampNeg) 79 x = _
        rw [t2, nc, sc, hwe, up2_at2]
        simp only [true_and]
      have q6 : ∀ x, S 21 x = if 24 * n ≤ x ∧ x < 24 * n + 24 then I 15 (24 * ss + (x - 24 * n)) else I 21 x := by
        intro x
        rw [hS]
        rfl
      have q7 : ∀ x, S 80 x = if 8 * n ≤ x ∧ x < 8 * n + w then I 72 (8 * ss + (x - 8 * n)) else I 80 x := by
        intro x
        rw [hS]
        rfl
      have q8 : ∀ x, S 81 x = if 8 * n ≤ x ∧ x < 8 * n + w then I 73 (8 * ss + (x - 8 * n)) else I 81 x := by
        intro x
        rw [hS]
        rfl
      have q9 : ∀ x, S 82 x = if 8 * n ≤ x ∧ x < 8 * n + w then I 74 (8 * ss + (x - 8 * n)) else I 82 x := by
        intro x
        rw [hS]
        rfl
      have r6 : ∀ x, x < 60 → ∃ w, w ≤ 8 ∧ S 79 x = nI w ∧ ∀ j, j < w → S 21 (24 * x + 3 * j) = S 80 (8 * x + j) ∧ S 21 (24 * x + 3 * j + 1) = S 81 (8 * x + j) ∧ S 21 (24 * x + 3 * j + 2) = S 82 (8 * x + j) := by
        intro x hx
        rw [q5]
        by_cases e : x = n
        · subst e
          rw [if_pos rfl]
          refine ⟨w, hw8, rfl, fun j hj => ?_⟩
          rw [q6, q6, q6, q7, q8, q9, if_pos (by omega), if_pos (by omega), if_pos (by omega), if_pos (by omega), if_pos (by omega), if_pos (by omega)]
          rw [show 24 * x + 3 * j - 24 * x = 3 * j by omega, show 24 * x + 3 * j + 1 - 24 * x = 3 * j + 1 by omega, show 24 * x + 3 * j + 2 - 24 * x = 3 * j + 2 by omega, show 8 * x + j - 8 * x = j by omega]
          exact hrow j hj
        · rw [if_neg e]
          obtain ⟨w2, h1, h2, h3⟩ := f6 x hx
          refine ⟨w2, h1, h2, fun j hj => ?_⟩
          rw [q6, q6, q6, q7, q8, q9, if_neg (by omega), if_neg (by omega), if_neg (by omega), if_neg (by omega), if_neg (by omega), if_neg (by omega)]
          exact h3 j hj
      have d1 : S 13 = S 70 := by
        rw [hS]
        show up2 I 13 ss 0 13 = up2 I 70 ss 0 70
        exact row2 e1
      have d2 : S 14 = S 71 := by
        rw [hS]
        show up2 I 14 ss 0 14 = up2 I 71 ss 0 71
        exact row2 e2
      have d3 : RDra S := by
        refine ⟨d1, d2, ?_⟩
        intro x hx
        rw [hS]
        show ∃ w', w' ≤ 8 ∧ up2 I 71 ss 0 71 x = nI w' ∧ ∀ j, j < w' → I 15 (24 * x + 3 * j) = I 72 (8 * x + j) ∧ I 15 (24 * x + 3 * j + 1) = I 73 (8 * x + j) ∧ I 15 (24 * x + 3 * j + 2) = I 74 (8 * x + j)
        by_cases e : x = ss
        · subst e
          exact ⟨0, by omega, by rw [up2_at, nI_0], fun j hj => absurd hj (Nat.not_lt_zero _)⟩
        · rw [up2_off e]
          exact e3 x hx
      have K1 : KX S (n + 1) m tk fd (h + q) h := by
        refine ⟨⟨by omega, by rw [hS]; rfl, fun i hi => ?_⟩, by rw [hS]; exact H.cnt.1.2.1, by rw [hS]; exact H.cnt.1.2.2.1, by rw [hS]; exact H.cnt.1.2.2.2⟩
        obtain ⟨w2, h1, h2, -⟩ := r6 i (by omega)
        rw [r5]
        exact ⟨w2, h1, h2⟩
      have K2 : KM S (n + 1) m tk fd (h + q) h := km_of K1 (by rw [hS]; rfl) r5 (by rw [hS]; exact H.cnt.2.1.2.1.2.1) (by rw [hS]; exact H.gau.2.2.2.2.1) (by rw [hS]; exact H.gau.2.1) (by rw [hS]; exact H.gau.2.2.1) (by rw [hS]; exact H.cnt.2.1.2.2.1.2.1) (by rw [hS]; exact H.cnt.2.1.2.2.1.2.2.2.2) (by rw [hS]; exact H.cnt.2.1.2.2.2.2.1) (by rw [hS]; exact H.cnt.2.1.2.2.2.2.2.2)
      have dr : q ≤ 60 ∧ S 4 9 = nI q ∧ S 12 36 = nI q := by
        rw [hS]
        exact H.cnt.2.2
      refine Pair.mk hX hM rfl ⟨n + 1, m, tk, fd, h, q, sp, ms, np, ⟨?_, ?_, d3, ⟨r1, r2, r3, r4, r5, r6⟩, ⟨K1, K2, dr⟩, ?_, ?_, ?_, ?_, ?_, ?_, ?_, ?_, ?_⟩⟩
      · rw [hS]; exact H.now
      · rw [hS]; exact H.fin
      · rw [hS]; exact H.gau
      · rw [hS]; exact H.sho
      · rw [hS]; exact H.wat
      · rw [hS]; exact H.shp
      · rw [hS]; exact H.tra
      · rw [hS]; exact H.fle
      · rw [hS]; exact H.rou
      · rw [hS]; exact H.win
      · rw [hS]; exact H.pas
    next c2 => exact Pair.mk hX (ci_n (ci_p (c_M_survey g 18 I D s dy n hn60 t2 hW) c1) c2) rfl ⟨n, m, tk, fd, h, q, sp, ms, np, H⟩
  next c1 => exact Pair.mk hX (ci_n (c_M_survey g 18 I D s dy n hn60 t2 hW) c1) rfl ⟨n, m, tk, fd, h, q, sp, ms, np, H⟩
end S90
