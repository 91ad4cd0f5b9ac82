/-! at, air, compare, force, out, rule, sun, as -/
theorem ca_p {g : Gp} {mid : Nat} {As : List Value} {I I1 : MI} {D D1 : MD} {c : Prop} [Decidable c] {a b : Int32} (h : Con g SHc 20 mid As I D (EqP (some (.int (if c then a else b))) I1 D1)) (hc : c) : Con g SHc 20 mid As I D (EqP (some (.int a)) I1 D1) := by
  rw [if_pos hc] at h
  exact h
theorem ca_n {g : Gp} {mid : Nat} {As : List Value} {I I1 : MI} {D D1 : MD} {c : Prop} [Decidable c] {a b : Int32} (h : Con g SHc 20 mid As I D (EqP (some (.int (if c then a else b))) I1 D1)) (hc : ¬ c) : Con g SHc 20 mid As I D (EqP (some (.int b)) I1 D1) := by
  rw [if_neg hc] at h
  exact h
section S88
variable (g : Gp) (I : MI) (D : MD)
theorem p_at (hr : Rel I D) (ga i : Int32) : Pair g 29 172 [.int ga, .int i] I D := by
  obtain ⟨n, m, tk, fd, h, q, sp, ms, np, H⟩ := hr
  obtain ⟨e1, e2, e3, e4, e5, e6, e7, e8, e9, e10⟩ := H.gau
  have hm : m ≤ 10 := H.cnt.1.2.1.1
  have hz : ∀ j, j < m → ∃ r, r ≤ 120 ∧ I 87 j = nI r := fun j hj => e10 j (by omega)
  have hX := c_X_at g 19 I D m H.cnt.1.2.1.1 H.cnt.1.2.1.2.1 (by rw [e5]; exact hz) ga i
  rw [e4, e5, e6, H.fin.1] at hX
  split at hX
  next c1 =>
    split at hX
    next c2 =>
      split at hX
      next c3 =>
        exact Pair.mk hX (ci_p (ci_p (ci_p (c_M_at g 18 I D m hm H.cnt.2.1.2.1.2.1 hz ga i) c1) c2) c3) rfl ⟨n, m, tk, fd, h, q, sp, ms, np, H⟩
      next c3 =>
        exact Pair.mk hX (ci_n (ci_p (ci_p (c_M_at g 18 (tellX 2 I) D m hm H.cnt.2.1.2.1.2.1 hz ga i) c1) c2) c3) rfl ⟨n, m, tk, fd, h, q, sp, ms, np, rel_fin H _⟩
    next c2 =>
      exact Pair.mk hX (ci_n (ci_p (c_M_at g 18 (tellX 1 I) D m hm H.cnt.2.1.2.1.2.1 hz ga i) c1) c2) rfl ⟨n, m, tk, fd, h, q, sp, ms, np, rel_fin H _⟩
  next c1 =>
    exact Pair.mk hX (ci_n (c_M_at g 18 I D m hm H.cnt.2.1.2.1.2.1 hz ga i) c1) rfl ⟨n, m, tk, fd, h, q, sp, ms, np, H⟩
theorem p_air (hr : Rel I D) (ga i : Int32) : Pair g 31 174 [.int ga, .int i] I D := by
  obtain ⟨n, m, tk, fd, h, q, sp, ms, np, H⟩ := hr
  obtain ⟨e1, e2, e3, e4, e5, e6, e7, e8, e9, e10⟩ := H.gau
  have hm : m ≤ 10 := H.cnt.1.2.1.1
  have hz : ∀ j, j < m → ∃ r, r ≤ 120 ∧ I 87 j = nI r := fun j hj => e10 j (by omega)
  have hX := c_X_air g 19 I D m H.cnt.1.2.1.1 H.cnt.1.2.1.2.1 (by rw [e5]; exact hz) ga i
  rw [e4, e5, e7, H.fin.1] at hX
  split at hX
  next c1 =>
    split at hX
    next c2 =>
      split at hX
      next c3 =>
        exact Pair.mk hX (ci_p (ci_p (ci_p (c_M_air g 18 I D m hm H.cnt.2.1.2.1.2.1 hz ga i) c1) c2) c3) rfl ⟨n, m, tk, fd, h, q, sp, ms, np, H⟩
      next c3 =>
        exact Pair.mk hX (ci_n (ci_p (ci_p (c_M_air g 18 (tellX 2 I) D m hm H.cnt.2.1.2.1.2.1 hz ga i) c1) c2) c3) rfl ⟨n, m, tk, fd, h, q, sp, ms, np, rel_fin H _⟩
    next c2 =>
      exact Pair.mk hX (ci_n (ci_p (c_M_air g 18 (tellX 1 I) D m hm H.cnt.2.1.2.1.2.1 hz ga i) c1) c2) rfl ⟨n, m, tk, fd, h, q, sp, ms, np, rel_fin H _⟩
  next c1 =>
    exact Pair.mk hX (ci_n (c_M_air g 18 I D m hm H.cnt.2.1.2.1.2.1 hz ga i) c1) rfl ⟨n, m, tk, fd, h, q, sp, ms, np, H⟩
theorem p_compare (hr : Rel I D) (ga i k : Int32) : Pair g 32 175 [.int ga, .int i, .int k] I D := by
  obtain ⟨n, m, tk, fd, h, q, sp, ms, np, H⟩ := hr
  obtain ⟨e1, e2, e3, e4, e5, e6, e7, e8, e9, e10⟩ := H.gau
  have hm : m ≤ 10 := H.cnt.1.2.1.1
  have hz : ∀ j, j < m → ∃ r, r ≤ 120 ∧ I 87 j = nI r := fun j hj => e10 j (by omega)
  have hX := c_X_compare g 18 I D m H.cnt.1.2.1.1 H.cnt.1.2.1.2.1 (by rw [e5]; exact hz) ga i k
  rw [e4, e5, e7, H.fin.1] at hX
  have ha : ∀ j k, j < m → nI k < I 87 j → k < 120 → noF (I 89 (120 * j + k)) = true → I 89 (120 * j + k) = 2143289344 := fun j k _ _ _ => e8 _
  split at hX
  next c1 =>
    split at hX
    next c2 =>
      exact Pair.mk hX (ci_p (ci_p (c_M_compare g 18 I D m hm H.cnt.2.1.2.1.2.1 hz ha ga i k) c1) c2) rfl ⟨n, m, tk, fd, h, q, sp, ms, np, H⟩
    next c2 =>
      split at hX
      next c3 =>
        split at hX
        next c4 =>
          split at hX
          next c5 =>
            exact Pair.mk hX (ci_p (ci_p (ci_p (ci_n (ci_p (c_M_compare g 18 I D m hm H.cnt.2.1.2.1.2.1 hz ha ga i k) c1) c2) c3) c4) c5) rfl ⟨n, m, tk, fd, h, q, sp, ms, np, H⟩
          next c5 =>
            exact Pair.mk hX (ci_n (ci_p (ci_p (ci_n (ci_p (c_M_compare g 18 (tellX 2 I) D m hm H.cnt.2.1.2.1.2.1 hz ha ga i k) c1) c2) c3) c4) c5) rfl ⟨n, m, tk, fd, h, q, sp, ms, np, rel_fin H _⟩
        next c4 =>
          exact Pair.mk hX (ci_n (ci_p (ci_n (ci_p (c_M_compare g 18 (tellX 2 I) D m hm H.cnt.2.1.2.1.2.1 hz ha ga i k) c1) c2) c3) c4) rfl ⟨n, m, tk, fd, h, q, sp, ms, np, rel_fin H _⟩
      next c3 =>
        exact Pair.mk hX (ci_n (ci_n (ci_p (c_M_compare g 18 (tellX 1 I) D m hm H.cnt.2.1.2.1.2.1 hz ha ga i k) c1) c2) c3) rfl ⟨n, m, tk, fd, h, q, sp, ms, np, rel_fin H _⟩
  next c1 =>
    exact Pair.mk hX (ci_n (c_M_compare g 18 I D m hm H.cnt.2.1.2.1.2.1 hz ha ga i k) c1) rfl ⟨n, m, tk, fd, h, q, sp, ms, np, H⟩
theorem p_force (hr : Rel I D) (s t k : Int32) : Pair g 20 165 [.int s, .int t, .int k] I D := by
  obtain ⟨n, m, tk, fd, h, q, sp, ms, np, H⟩ := hr
  obtain ⟨e1, e2, e3, -⟩ := H.sur
  have hX := c_X_force g 19 I D n H.cnt.1.1.1 H.cnt.1.1.2.1 s t k
  rw [e1, e2, e3, H.fin.1, H.now.1] at hX
  split at hX
  next c1 =>
    split at hX
    next c2 =>
      exact Pair.mk hX (ci_p (ci_p (c_M_force g 17 I D n H.cnt.2.1.1.1 H.cnt.2.1.1.2.1 s t k) c1) c2) rfl ⟨n, m, tk, fd, h, q, sp, ms, np, H⟩
    next c2 =>
      split at hX
      next c3 =>
        exact Pair.mk hX (ci_p (ci_n (ci_p (c_M_force g 17 (tellX 1 I) D n H.cnt.2.1.1.1 H.cnt.2.1.1.2.1 s t k) c1) c2) c3) rfl ⟨n, m, tk, fd, h, q, sp, ms, np, rel_fin H _⟩
      next c3 =>
        exact Pair.mk hX (ci_n (ci_n (ci_p (c_M_force g 17 I D n H.cnt.2.1.1.1 H.cnt.2.1.1.2.1 s t k) c1) c2) c3) rfl ⟨n, m, tk, fd, h, q, sp, ms, np, H⟩
  next c1 =>
    exact Pair.mk hX (ci_n (c_M_force g 17 I D n H.cnt.2.1.1.1 H.cnt.2.1.1.2.1 s t k) c1) rfl ⟨n, m, tk, fd, h, q, sp, ms, np, H⟩
theorem p_as (hr : Rel I D) (sh kd : Int32) : Pair g 91 213 [.int sh, .int kd] I D := by
  obtain ⟨n, m, tk, fd, h, q, sp, ms, np, H⟩ := hr
  obtain ⟨hms, hS, hS2, e1, -, -, e4, -⟩ := H.shp
  have hX := c_X_as g 17 I D ms hms hS sh kd
  rw [e1, e4, H.fin.1] at hX
  split at hX
  next c1 =>
    split at hX
    next c2 =>
      exact Pair.mk hX (ci_p (ci_p (c_M_as g 17 I D ms hms hS2 sh kd) c1) c2) rfl ⟨n, m, tk, fd, h, q, sp, ms, np, H⟩
    next c2 =>
      split at hX
      next c3 =>
        exact Pair.mk hX (ci_p (ci_n (ci_p (c_M_as g 17 (tellX 1 I) D ms hms hS2 sh kd) c1) c2) c3) rfl ⟨n, m, tk, fd, h, q, sp, ms, np, rel_fin H _⟩
      next c3 =>
        split at hX
        next c4 =>
          exact Pair.mk hX (ci_p (ci_n (ci_n (ci_p (c_M_as g 17 (up2 I 0 12 (I 106 sh.toNatClampNeg)) D ms hms hS2 sh kd) c1) c2) c3) c4) rfl ⟨n, m, tk, fd, h, q, sp, ms, np, ⟨H.now, H.fin, H.dra, H.sur, H.cnt, H.gau, H.sho, H.wat, H.shp, ⟨rfl, H.tra.2⟩, H.fle, H.rou, H.win, H.pas⟩⟩
        next c4 =>
          exact Pair.mk hX (ci_n (ci_n (ci_n (ci_p (c_M_as g 17 (tellX 3 I) D ms hms hS2 sh kd) c1) c2) c3) c4) rfl ⟨n, m, tk, fd, h, q, sp, ms, np, rel_fin H _⟩
  next c1 =>
    exact Pair.mk hX (ci_n (c_M_as g 17 I D ms hms hS2 sh kd) c1) rfl ⟨n, m, tk, fd, h, q, sp, ms, np, H⟩
theorem p_sun (hr : Rel I D) (a b : Int32) : Pair g 112 227 [.int a, .int b] I D := by
  obtain ⟨n, m, tk, fd, h, q, sp, ms, np, H⟩ := hr
  obtain ⟨a1, a2, a3, a4, a5, a6, -, -⟩ := H.rou
  have hX := c_X_sun g 19 I D a b
  split at hX
  next c1 =>
    exact Pair.mk hX (ci_p (c_M_sun g 19 (up2 (up2 I 8 6 a) 8 7 b) D a b) c1) rfl ⟨n, m, tk, fd, h, q, sp, ms, np, ⟨H.now, H.fin, H.dra, H.sur, H.cnt, H.gau, H.sho, H.wat, H.shp, H.tra, H.fle, ⟨a1, a2, a3, a4, a5, a6, rfl, rfl⟩, H.win, H.pas⟩⟩
  next c1 =>
    exact Pair.mk hX (ci_n (c_M_sun g 19 I D a b) c1) rfl ⟨n, m, tk, fd, h, q, sp, ms, np, H⟩
theorem p_out (hr : Rel I D) (ga v : Int32) (hv : v = 0 ∨ v = 1) : Pair g 28 171 [.int ga, .int v] I D := by
  obtain ⟨n, m, tk, fd, h, q, sp, ms, np, H⟩ := hr
  obtain ⟨e1, e2, e3, e4, e5, e6, e7, e8, e9, e10⟩ := H.gau
  have hm : m ≤ 10 := H.cnt.1.2.1.1
  have hz : ∀ j, j < m → ∃ r, r ≤ 120 ∧ I 87 j = nI r := fun j hj => e10 j (by omega)
  have hX := c_X_out g 19 I D m H.cnt.1.2.1.1 H.cnt.1.2.1.2.1 ga v hv
  rw [e4] at hX
  split at hX
  next c1 =>
    obtain ⟨j, hj, rfl⟩ := ix_nI (show m < 2 ^ 31 by omega) c1
    have jc : (nI j).toNatClampNeg = j := nI_clamp (by omega)
    rw [jc] at hX
    split at hX
    next c2 =>
      have hM := ca_p (ci_p (c_M_out g 18 I D m hm H.cnt.2.1.2.1.2.1 (nI j) v hv) c1) (by rw [jc]; exact c2)
      rw [jc, ← c2, up2_same] at hM
      rw [← c2] at hX ⊢
      exact Pair.mk hX hM rfl ⟨n, m, tk, fd, h, q, sp, ms, np, H⟩
    next c2 =>
      have hM := ca_n (ci_p (c_M_out g 18 (up2 I 25 j v) D m hm H.cnt.2.1.2.1.2.1 (nI j) v hv) c1) (by rw [jc]; exact c2)
      rw [jc] at hM
      have r4 : up2 (up2 I 25 j v) 86 j v 25 = up2 (up2 I 25 j v) 86 j v 86 := by
        show up2 I 25 j v 25 = up2 I 86 j v 86
        exact row2 e4
      have r9 : ∀ x, up2 (up2 I 25 j v) 86 j v 86 x = 0 ∨ up2 (up2 I 25 j v) 86 j v 86 x = 1 := by
        intro x
        show up2 I 86 j v 86 x = 0 ∨ up2 I 86 j v 86 x = 1
        exact up2_q (fun w => w = 0 ∨ w = 1) hv (e9 x)
      exact Pair.mk hX hM rfl ⟨n, m, tk, fd, h, q, sp, ms, np, ⟨H.now, H.fin, H.dra, H.sur, H.cnt, ⟨e1, e2, e3, r4, e5, e6, e7, e8, r9, e10⟩, H.sho, H.wat, H.shp, H.tra, H.fle, H.rou, H.win, H.pas⟩⟩
  next c1 => exact Pair.mk hX (ci_n (c_M_out g 18 I D m hm H.cnt.2.1.2.1.2.1 ga v hv) c1) rfl ⟨n, m, tk, fd, h, q, sp, ms, np, H⟩
theorem p_rule (hr : Rel I D) (w v : Int32) : Pair g 35 176 [.int w, .int v] I D := by
  obtain ⟨n, m, tk, fd, h, q, sp, ms, np, H⟩ := hr
  have hX := c_X_rule g 19 I D w v
  obtain ⟨⟨x1, x2, ⟨x3, x4, x5, x6, x7⟩, x8⟩, ⟨y1, y2, ⟨y3, y4, y5, y6, y7⟩, y8⟩, y9⟩ := H.cnt
  obtain ⟨w1, w2, w3, w4, w5⟩ := H.wat
  rw [x4, x7, w3] at hX
  split at hX
  next c1 =>
    have hM := ci_p (c_M_rule g 19 (up2 I 3 10 v) D w v) c1
    rw [Bool.and_eq_true] at c1
    obtain ⟨j, hj1, hj2, hje⟩ := wi_ab (a := 1) (b := 9) (by decide) (by decide) c1.2
    exact Pair.mk hX hM (by rw [show up2 I 3 10 v 12 26 = nI tk from y4]) ⟨n, m, j, fd, h, q, sp, ms, np, ⟨H.now, H.fin, H.dra, H.sur, ⟨⟨x1, x2, ⟨hj2, hje, x5, x6, x7⟩, x8⟩, ⟨y1, y2, ⟨hj2, hje, y5, y6, y7⟩, y8⟩, y9⟩, H.gau, H.sho, H.wat, H.shp, H.tra, H.fle, H.rou, H.win, H.pas⟩⟩
  next c1 =>
    split at hX
    next c2 =>
      have hM := ci_p (ci_n (c_M_rule g 19 (up2 I 3 11 v) D w v) c1) c2
      rw [Bool.and_eq_true] at c2
      obtain ⟨j, hj1, hj2, hje⟩ := wi_ab (a := 1) (b := 48) (by decide) (by decide) c2.2
      exact Pair.mk hX hM (by rw [show up2 I 3 11 v 12 27 = nI fd from y7]) ⟨n, m, tk, j, h, q, sp, ms, np, ⟨H.now, H.fin, H.dra, H.sur, ⟨⟨x1, x2, ⟨x3, x4, hj1, hj2, hje⟩, x8⟩, ⟨y1, y2, ⟨y3, y4, hj1, hj2, hje⟩, y8⟩, y9⟩, H.gau, H.sho, H.wat, H.shp, H.tra, H.fle, H.rou, H.win, H.pas⟩⟩
    next c2 =>
      split at hX
      next c3 =>
        have hM := ci_p (ci_n (ci_n (c_M_rule g 19 (up2 I 5 7 v) D w v) c1) c2) c3
        rw [Bool.and_eq_true] at c3
        obtain ⟨j, hj1, hj2, hje⟩ := wi_ab (a := 1) (b := 60) (by decide) (by decide) c3.2
        exact Pair.mk hX hM (by rw [show up2 I 5 7 v 12 28 = nI sp from w4]) ⟨n, m, tk, fd, h, q, j, ms, np, ⟨H.now, H.fin, H.dra, H.sur, H.cnt, H.gau, H.sho, ⟨w1, hj2, hje, hje, w5⟩, H.shp, H.tra, H.fle, H.rou, H.win, H.pas⟩⟩
      next c3 => exact Pair.mk hX (ci_n (ci_n (ci_n (c_M_rule g 19 I D w v) c1) c2) c3) rfl ⟨n, m, tk, fd, h, q, sp, ms, np, H⟩
end S88
