/-! what only asks -/
section S86
variable (g : Gp) (I : MI) (D : MD)
theorem p_cos (hr : Rel I D) (a : Int32) : Pair g 11 155 [.int a] I D := Pair.mk (c_X_cos g 19 I D a) (c_M_cos g 18 I D a) rfl hr
theorem p_lacking (hr : Rel I D) : Pair g 40 179 [] I D := by
  obtain ⟨n, m, tk, fd, h, q, sp, ms, np, H⟩ := id hr
  exact Pair.mk (c_X_lacking g 20 I D) (c_M_lacking g 20 I D) (by rw [H.wat.1]) hr
theorem p_asked (hr : Rel I D) : Pair g 89 211 [] I D := by
  obtain ⟨n, m, tk, fd, h, q, sp, ms, np, H⟩ := id hr
  exact Pair.mk (c_X_asked g 20 I D) (c_M_asked g 20 I D) (by rw [H.tra.1]) hr
theorem p_trace (hr : Rel I D) (i : Int32) : Pair g 90 212 [.int i] I D := by
  obtain ⟨n, m, tk, fd, h, q, sp, ms, np, H⟩ := id hr
  obtain ⟨-, e, k, hk, h1, h2⟩ := H.tra
  exact Pair.mk (c_X_trace g 19 I D k hk h1 i) (c_M_trace g 19 I D k hk h2 i) (by rw [e]) hr
theorem p_found (hr : Rel I D) (s i w : Int32) : Pair g 60 191 [.int s, .int i, .int w] I D := by
  obtain ⟨n, m, tk, fd, h, q, sp, ms, np, H⟩ := id hr
  obtain ⟨-, -, -, -, e1, e2, e3, -, -, -, hW⟩ := H.wat
  have hW : ∀ s, s < 12 → ∃ c, c ≤ 40 ∧ I 97 s = nI c := fun s hs => by
    obtain ⟨c, hc, hce, -⟩ := hW s hs
    exact ⟨c, hc, hce⟩
  exact Pair.mk (c_X_found g 17 I D (by rw [e1]; exact hW) s i w) (c_M_found g 17 I D hW s i w) (by rw [e1, e2, e3]) hr
theorem p_window (hr : Rel I D) (i l : Int32) : Pair g 122 235 [.int i, .int l] I D := by
  obtain ⟨n, m, tk, fd, h, q, sp, ms, np, H⟩ := id hr
  obtain ⟨-, -, k, hk, h1, h2, h3⟩ := H.win
  refine Pair.mk (c_X_window g 19 I D k hk h1 i l) (c_M_window g 19 I D k hk h2 i l) ?_ hr
  by_cases c : ix i (nI k) = true
  · obtain ⟨j, hj, rfl⟩ := ix_nI (show k < 2 ^ 31 by omega) c
    rw [if_pos c, if_pos c, nI_clamp (show j < 2 ^ 31 by omega), (h3 j hj).1, (h3 j hj).2]
  · rw [if_neg c, if_neg c]
theorem p_wrong (hr : Rel I D) (v : Int32) : Pair g 123 236 [.int v] I D := by
  obtain ⟨n, m, tk, fd, h, q, sp, ms, np, H⟩ := id hr
  exact Pair.mk (c_X_wrong g 19 I D v) (c_M_wrong g 20 I D v) (by rw [H.win.1, H.win.2.1]) hr
theorem p_planned (hr : Rel I D) (p v : Int32) : Pair g 135 244 [.int p, .int v] I D := by
  obtain ⟨n, m, tk, fd, h, q, sp, ms, np, H⟩ := id hr
  obtain ⟨hPX, hPM, -, -, -, e1, e2, e3, -⟩ := H.pas
  exact Pair.mk (c_X_planned g 19 I D np hPX.1 hPX.2.1 p v) (c_M_planned g 18 I D np hPM.1 hPM.2.1 p v) (by rw [e1, e2, e3]) hr
theorem p_tries (hr : Rel I D) : Pair g 143 249 [] I D := by
  obtain ⟨n, m, tk, fd, h, q, sp, ms, np, H⟩ := id hr
  obtain ⟨-, -, -, -, -, -, -, -, -, -, -, -, -, -, e⟩ := H.pas
  exact Pair.mk (c_X_tries g 20 I D) (c_M_tries g 20 I D) (by rw [e]) hr
theorem p_held (hr : Rel I D) (v : Int32) : Pair g 144 250 [.int v] I D := by
  obtain ⟨n, m, tk, fd, h, q, sp, ms, np, H⟩ := id hr
  obtain ⟨-, -, -, -, -, -, -, -, -, -, -, -, e0, e, -⟩ := H.pas
  exact Pair.mk (c_X_held g 19 I D v) (c_M_held g 20 I D v) (by rw [e0, e]) hr
theorem p_count (hr : Rel I D) (v : Int32) : Pair g 145 251 [.int v] I D := by
  obtain ⟨n, m, tk, fd, h, q, sp, ms, np, H⟩ := id hr
  obtain ⟨hX, hM, -, d1, d2⟩ := H.cnt
  obtain ⟨-, -, k, -, w1, w2, -⟩ := H.win
  exact Pair.mk (c_X_count g 20 I D v) (c_M_count g 20 I D v) (by rw [H.now.1, H.fin.1, hX.1.2.1, hM.1.2.1, hX.2.1.2.1, hM.2.1.2.1, hX.2.2.2.2.2.2, hM.2.2.2.2.2.2, d1, d2, H.shp.2.1, H.shp.2.2.1, H.pas.1.2.1, H.pas.2.1.2.1, w1, w2]) hr
theorem p_finding (hr : Rel I D) : Pair g 146 252 [] I D := by
  obtain ⟨n, m, tk, fd, h, q, sp, ms, np, H⟩ := id hr
  exact Pair.mk (c_X_finding g 20 I D) (c_M_finding g 20 I D) (by rw [H.fin.2]) hr
theorem p_digest (hr : Rel I D) : Pair g 147 253 [] I D := by
  obtain ⟨n, m, tk, fd, h, q, sp, ms, np, H⟩ := id hr
  obtain ⟨hPX, hPM, -, -, -, e1, e2, e3, -⟩ := H.pas
  exact Pair.mk (c_X_digest g 20 I D np hPX.1 hPX.2.1) (c_M_digest g 20 I D np hPM.1 hPM.2.1) (by rw [e2]) hr
end S86
