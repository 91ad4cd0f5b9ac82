/-! height, depth, surge, water -/
theorem cl_p {g : Gp} {mid : Nat} {As : List Value} {I I1 I2 : MI} {D D1 : MD} {c : Prop} [Decidable c] {a b : Int64} (h : Con g SHc 20 mid As I D (EqP (some (.long (if c then a else b))) (if c then I1 else I2) D1)) (hc : c) : Con g SHc 20 mid As I D (EqP (some (.long a)) I1 D1) := by
  rw [if_pos hc, if_pos hc] at h
  exact h
theorem cl_n {g : Gp} {mid : Nat} {As : List Value} {I I1 I2 : MI} {D D1 : MD} {c : Prop} [Decidable c] {a b : Int64} (h : Con g SHc 20 mid As I D (EqP (some (.long (if c then a else b))) (if c then I1 else I2) D1)) (hc : ¬ c) : Con g SHc 20 mid As I D (EqP (some (.long b)) I2 D1) := by
  rw [if_neg hc, if_neg hc] at h
  exact h
theorem cm_p {g : Gp} {mid : Nat} {As : List Value} {I I1 I2 : MI} {D D1 D2 : MD} {c : Prop} [Decidable c] {a b : Int64} (h : Con g SHc 20 mid As I D (EqP (some (.long (if c then a else b))) (if c then I1 else I2) (if c then D1 else D2))) (hc : c) : Con g SHc 20 mid As I D (EqP (some (.long a)) I1 D1) := by
  rw [if_pos hc, if_pos hc, if_pos hc] at h
  exact h
theorem cm_n {g : Gp} {mid : Nat} {As : List Value} {I I1 I2 : MI} {D D1 D2 : MD} {c : Prop} [Decidable c] {a b : Int64} (h : Con g SHc 20 mid As I D (EqP (some (.long (if c then a else b))) (if c then I1 else I2) (if c then D1 else D2))) (hc : ¬ c) : Con g SHc 20 mid As I D (EqP (some (.long b)) I2 D2) := by
  rw [if_neg hc, if_neg hc, if_neg hc] at h
  exact h
section SA7
variable (g : Gp) (I : MI) (D : MD)
theorem eqM_lk {I : MI} (v : Int32) : eqM (up2 I 0 13 v) I := ⟨rfl, rfl, rfl, rfl, rfl, rfl, rfl, rfl, rfl, rfl, rfl, rfl, rfl, rfl, rfl, rfl, rfl, rfl, rfl, rfl, rfl, rfl, rfl, rfl, rfl, rfl, rfl, rfl, rfl, rfl, rfl, rfl, rfl, rfl, rfl, rfl, rfl, rfl, rfl, rfl⟩
theorem p_height (hr : Rel I D) (s t k : Int32) : Pair g 14 159 [.int s, .int t, .int k] I D := by
  obtain ⟨n, m, tk, fd, h, q, sp, ms, np, H⟩ := hr
  have hX := c_X_height g 18 I D n H.cnt.1.1.1 H.cnt.1.1.2.1 H.cnt.1.1.2.2 s t k
  have hM := fun J a1 a2 => c_M_height g 17 J D n H.cnt.1.1.1 a1 a2 s t k
  rw [H.now.1, H.fin.1, H.sur.1, H.sur.2.1, H.sur.2.2.1] at hX
  by_cases c1 : (wi s 0 11 && wi t 0 2591999 && wi k 0 (I 12 0)) = true
  · by_cases c2 : 3000 ≤ I 12 2
    · exact Pair.mk (cl_p (cl_p hX c1) c2) (cm_p (cm_p (hM I H.cnt.2.1.1.2.1 H.cnt.2.1.1.2.2) c1) c2) rfl ⟨n, m, tk, fd, h, q, sp, ms, np, H⟩
    · by_cases c3 : ifF (I 75) (I 76) (I 77) s t k n = -1
      · exact Pair.mk (cl_p (cl_n (cl_p hX c1) c2) c3) (cm_p (cm_n (cm_p (hM (tellX 1 I) H.cnt.2.1.1.2.1 H.cnt.2.1.1.2.2) c1) c2) c3) rfl ⟨n, m, tk, fd, h, q, sp, ms, np, rel_fin H _⟩
      · have hM' := cm_n (cm_n (cm_p (hM I H.cnt.2.1.1.2.1 H.cnt.2.1.1.2.2) c1) c2) c3
        have hX' := cl_n (cl_n (cl_p hX c1) c2) c3
        rw [hgt_eq H.sur H.cnt.1.1.1 c3] at hX'
        generalize hgtM I n s t k = v at hX' hM'
        exact Pair.mk hX' hM' rfl ⟨n, m, tk, fd, h, q, sp, ms, np, H⟩
  · exact Pair.mk (cl_n hX c1) (cm_n (hM I H.cnt.2.1.1.2.1 H.cnt.2.1.1.2.2) c1) rfl ⟨n, m, tk, fd, h, q, sp, ms, np, H⟩
theorem p_depth (hr : Rel I D) (s t k : Int32) : Pair g 48 184 [.int s, .int t, .int k] I D := by
  obtain ⟨n, m, tk, fd, h, q, sp, ms, np, H⟩ := hr
  obtain ⟨b1, b2, b3, b4⟩ := id H.cnt.1.2.2.2
  obtain ⟨d1, d2, d3, d4⟩ := id H.cnt.2.1.2.2.2
  have hX := c_X_depth g 17 I D n (h + q) h H.cnt.1.1.1 H.cnt.1.1.2.1 H.cnt.1.1.2.2 b1 b2 b3 b4 s t k
  have hM := fun J a1 a2 a3 a4 => c_M_depth g 17 J D n (h + q) h H.cnt.1.1.1 a1 a2 b1 a3 b3 a4 s t k
  rw [H.now.1, H.fin.1, bf_eq H.sho, H.sho.1, sf_eq H.sur] at hX
  by_cases c1 : (ix s (nI h) && wi t 0 2591999 && wi k 0 (I 12 0)) = true
  · by_cases c2 : 3000 ≤ I 12 2
    · exact Pair.mk (cl_p (cl_p hX c1) c2) (cm_p (cm_p (hM I H.cnt.2.1.1.2.1 H.cnt.2.1.1.2.2 d2 d4) c1) c2) rfl ⟨n, m, tk, fd, h, q, sp, ms, np, H⟩
    · by_cases c3 : bfM I s t k (h + q) = -1 ∨ sfM I (I 91 s.toNatClampNeg) t k n = -1
      · exact Pair.mk (cl_p (cl_n (cl_p hX c1) c2) c3) (cm_p (cm_n (cm_p (hM (tellX 1 I) H.cnt.2.1.1.2.1 H.cnt.2.1.1.2.2 d2 d4) c1) c2) (by rw [bfM_c (eqM_te 1), sfM_c (eqM_te 1)]; exact c3)) rfl ⟨n, m, tk, fd, h, q, sp, ms, np, rel_fin H _⟩
      · have hM' := cm_n (cm_n (cm_p (hM I H.cnt.2.1.1.2.1 H.cnt.2.1.1.2.2 d2 d4) c1) c2) c3
        have hX' := cl_n (cl_n (cl_p hX c1) c2) c3
        rw [dp_eq H.sur H.sho H.cnt.1.1.1 (fun z => c3 (Or.inr z))] at hX'
        generalize dpM I n (h + q) s.toNatClampNeg t k = v at hX' hM'
        exact Pair.mk hX' hM' rfl ⟨n, m, tk, fd, h, q, sp, ms, np, H⟩
  · exact Pair.mk (cl_n hX c1) (cm_n (hM I H.cnt.2.1.1.2.1 H.cnt.2.1.1.2.2 d2 d4) c1) rfl ⟨n, m, tk, fd, h, q, sp, ms, np, H⟩
end SA7
