/-! gauges -/
theorem ci_p {g : Gp} {mid : Nat} {As : List Value} {I I1 I2 : MI} {D D1 : MD} {c : Prop} [Decidable c] {a b : Int32} (h : Con g SHc 20 mid As I D (EqP (some (.int (if c then a else b))) (if c then I1 else I2) D1)) (hc : c) : Con g SHc 20 mid As I D (EqP (some (.int a)) I1 D1) := by
  rw [if_pos hc, if_pos hc] at h
  exact h
theorem ci_n {g : Gp} {mid : Nat} {As : List Value} {I I1 I2 : MI} {D D1 : MD} {c : Prop} [Decidable c] {a b : Int32} (h : Con g SHc 20 mid As I D (EqP (some (.int (if c then a else b))) (if c then I1 else I2) D1)) (hc : ¬ c) : Con g SHc 20 mid As I D (EqP (some (.int b)) I2 D1) := by
  rw [if_neg hc, if_neg hc] at h
  exact h
theorem row2 {I J : MI} {a b j : Nat} {v : Int32} (h : I a = J b) : up2 I a j v a = up2 J b j v b := by rw [up2_row, up2_row, h]
theorem up2_q {I : MI} {a j x : Nat} {v : Int32} (P : Int32 → Prop) (hv : P v) (h : P (I a x)) : P (up2 I a j v a x) := by
  by_cases e : x = j
  · subst e
    rw [up2_at]
    exact hv
  · rw [up2_off e]
    exact h
section S87
variable (g : Gp) (I : MI) (D : MD)
theorem km_of {I : MI} {n m tk fd b h : Nat} (hX : KX I n m tk fd b h) (a1 : I 12 8 = nI n) (a2 : I 20 = I 79) (a3 : I 12 18 = nI m) (a4 : I 26 = I 87) (a5 : I 23 = I 84) (a6 : I 24 = I 85) (a7 : I 12 26 = nI tk) (a8 : I 12 27 = nI fd) (a9 : I 12 37 = nI b) (a10 : I 12 33 = nI h) : KM I n m tk fd b h := by
  obtain ⟨⟨b1, -, b2⟩, ⟨b3, -, b4⟩, ⟨b5, -, b6, b7, -⟩, b8, -, b9, -⟩ := hX
  rw [a2] at b2
  rw [a4, a5, a6] at b4
  exact ⟨⟨b1, a1, b2⟩, ⟨b3, a3, b4⟩, ⟨b5, a7, b6, b7, a8⟩, b8, a9, b9, a10⟩
theorem p_gauge (hr : Rel I D) (s f p : Int32) : Pair g 21 166 [.int s, .int f, .int p] I D := by
  obtain ⟨n, m, tk, fd, h, q, sp, ms, np, H⟩ := hr
  have hX := c_X_gauge g 19 I D m H.cnt.1.2.1.1 H.cnt.1.2.1.2.1 s f p
  obtain ⟨e1, e2, e3, e4, e5, e6, e7, e8, e9, e10⟩ := H.gau
  have t1 : I 3 9 = nI m := H.cnt.1.2.1.2.1
  have t2 : I 12 18 = nI m := H.cnt.2.1.2.1.2.1
  have hm : m ≤ 10 := H.cnt.1.2.1.1
  split at hX
  next c1 =>
    split at hX
    next c2 =>
      have hM := ci_p (ci_p (c_M_gauge g 18 (gaX I s f p) D m H.cnt.2.1.2.1.1 H.cnt.2.1.2.1.2.1 s f p) c1) c2
      rw [Bool.and_eq_true, Bool.and_eq_true] at c1
      obtain ⟨fn, hfn, hfe⟩ := wi_nI (m := 2591999) (by decide) c1.1.2
      obtain ⟨pn, -, hpn, hpe⟩ := wi_ab (a := 60) (b := 7200) (by decide) (by decide) c1.2
      have mc : (nI m).toNatClampNeg = m := nI_clamp (by omega)
      have r1 : gaM (gaX I s f p) s f p 22 = gaM (gaX I s f p) s f p 83 := by
        show up2 I 22 (I 3 9).toNatClampNeg s 22 = up2 I 83 (I 12 18).toNatClampNeg s 83
        rw [t1, t2]; exact row2 e1
      have r2 : gaM (gaX I s f p) s f p 23 = gaM (gaX I s f p) s f p 84 := by
        show up2 I 23 (I 3 9).toNatClampNeg f 23 = up2 I 84 (I 12 18).toNatClampNeg f 84
        rw [t1, t2]; exact row2 e2
      have r3 : gaM (gaX I s f p) s f p 24 = gaM (gaX I s f p) s f p 85 := by
        show up2 I 24 (I 3 9).toNatClampNeg p 24 = up2 I 85 (I 12 18).toNatClampNeg p 85
        rw [t1, t2]; exact row2 e3
      have K1 : KX (gaM (gaX I s f p) s f p) n (m + 1) tk fd (h + q) h := by
        refine ⟨H.cnt.1.1, ⟨by omega, ?_, ?_⟩, H.cnt.1.2.2.1, H.cnt.1.2.2.2⟩
        · show I 3 9 + 1 = nI (m + 1)
          rw [t1, nI_1]
        · intro j hj
          show ∃ z f' p', z ≤ 120 ∧ f' ≤ 2591999 ∧ p' ≤ 7200 ∧ I 26 j = nI z ∧ up2 I 23 (I 3 9).toNatClampNeg f 23 j = nI f' ∧ up2 I 24 (I 3 9).toNatClampNeg p 24 j = nI p'
          rw [t1, mc]
          by_cases e : j = m
          · subst e
            obtain ⟨z, hz, hze⟩ := e10 j (by omega)
            exact ⟨z, fn, pn, hz, hfn, hpn, by rw [e5]; exact hze, by rw [up2_at]; exact hfe, by rw [up2_at]; exact hpe⟩
          · rw [up2_off e, up2_off e]
            exact H.cnt.1.2.1.2.2 j (by omega)
      have K2 : KM (gaM (gaX I s f p) s f p) n (m + 1) tk fd (h + q) h := km_of K1 H.cnt.2.1.1.2.1 H.sur.2.2.2.2.1 (by
        show I 12 18 + 1 = nI (m + 1)
        rw [t2, nI_1]) e5 r2 r3 H.cnt.2.1.2.2.1.2.1 H.cnt.2.1.2.2.1.2.2.2.2 H.cnt.2.1.2.2.2.2.1 H.cnt.2.1.2.2.2.2.2.2
      exact Pair.mk hX hM rfl ⟨n, m + 1, tk, fd, h, q, sp, ms, np, ⟨H.now, H.fin, H.dra, H.sur, ⟨K1, K2, H.cnt.2.2⟩, ⟨r1, r2, r3, e4, e5, e6, e7, e8, e9, e10⟩, H.sho, H.wat, H.shp, H.tra, H.fle, H.rou, H.win, H.pas⟩⟩
    next c2 => exact Pair.mk hX (ci_n (ci_p (c_M_gauge g 18 _ D m H.cnt.2.1.2.1.1 H.cnt.2.1.2.1.2.1 s f p) c1) c2) rfl ⟨n, m, tk, fd, h, q, sp, ms, np, H⟩
  next c1 => exact Pair.mk hX (ci_n (c_M_gauge g 18 _ D m H.cnt.2.1.2.1.1 H.cnt.2.1.2.1.2.1 s f p) c1) rfl ⟨n, m, tk, fd, h, q, sp, ms, np, H⟩
theorem p_reading (hr : Rel I D) (ga v a : Int32) : Pair g 23 167 [.int ga, .int v, .int a] I D := by
  obtain ⟨n, m, tk, fd, h, q, sp, ms, np, H⟩ := hr
  obtain ⟨e1, e2, e3, e4, e5, e6, e7, e8, e9, e10⟩ := H.gau
  have hm : m ≤ 10 := H.cnt.1.2.1.1
  have hz : ∀ j, j < m → ∃ r, r ≤ 120 ∧ I 87 j = nI r := fun j hj => e10 j (by omega)
  have hX := c_X_reading g 19 I D m H.cnt.1.2.1.1 H.cnt.1.2.1.2.1 (by rw [e5]; exact hz) ga v a
  have hM := fun J hn hI hs => c_M_reading g 18 J D m hn hI hs ga v a
  rw [e2, e3, e4, e5, H.fin.1, H.now.1] at hX
  split at hX
  next c1 =>
    have hM := fun J hn hI hs hc => ci_p (hM J hn hI hs) hc
    split at hX
    next c2 => exact Pair.mk hX (ci_p (hM I hm H.cnt.2.1.2.1.2.1 hz c1) c2) rfl ⟨n, m, tk, fd, h, q, sp, ms, np, H⟩
    next c2 =>
      split at hX
      next c3 => exact Pair.mk hX (ci_p (ci_n (hM I hm H.cnt.2.1.2.1.2.1 hz c1) c2) c3) rfl ⟨n, m, tk, fd, h, q, sp, ms, np, H⟩
      next c3 =>
        split at hX
        next c4 =>
          rw [Bool.and_eq_true] at c1
          obtain ⟨j, hj, rfl⟩ := ix_nI (show m < 2 ^ 31 by omega) c1.1
          have jc : (nI j).toNatClampNeg = j := nI_clamp (by omega)
          rw [jc] at hX c2 c3 c4
          obtain ⟨z, hz1, hze⟩ := hz j hj
          have zc : (nI z).toNatClampNeg = z := nI_clamp (by omega)
          have hM2 := ci_p (ci_n (ci_n (hM (rdX I j z v (if noF a = true then 2143289344 else a)) hm H.cnt.2.1.2.1.2.1 hz (by rw [Bool.and_eq_true]; exact c1)) (by rw [jc]; exact c2)) (by rw [jc]; exact c3)) (by rw [jc]; exact c4)
          rw [jc] at hM2
          have hM2 : Con g SHc 20 167 [.ref 12, .int (nI j), .int v, .int a] (rdX I j z v (if noF a = true then 2143289344 else a)) D (EqP (some (.int (I 87 j + 1))) (rdM (rdX I j z v (if noF a = true then 2143289344 else a)) j (I 87 j).toNatClampNeg v (if noF a = true then 2143289344 else a)) D) := hM2
          rw [hze, zc] at hX hM2
          have hz120 : z < 120 := by
            rcases Nat.lt_or_ge z 120 with y | y
            · exact y
            · refine absurd ?_ c3
              rw [hze, Bool.or_eq_true, decide_eq_true_eq]
              exact Or.inl (show nI 120 ≤ nI z from nI_le y (by omega))
          obtain ⟨av, hav⟩ : ∃ av, av = (if noF a = true then 2143289344 else a) := ⟨_, rfl⟩
          rw [← hav] at hX hM2
          have hav2 : noF av = true → av = 2143289344 := by
            intro y
            rw [hav] at y ⊢
            split
            · rfl
            next u => rw [if_neg u] at y; exact absurd y u
          have r5 : rdM (rdX I j z v av) j z v av 26 = rdM (rdX I j z v av) j z v av 87 := by
            show up2 I 26 j (nI (z + 1)) 26 = up2 I 87 j (nI (z + 1)) 87
            exact row2 e5
          have r6 : rdM (rdX I j z v av) j z v av 27 = rdM (rdX I j z v av) j z v av 88 := by
            show up2 I 27 (120 * j + z) v 27 = up2 I 88 (120 * j + z) v 88
            exact row2 e6
          have r7 : rdM (rdX I j z v av) j z v av 28 = rdM (rdX I j z v av) j z v av 89 := by
            show up2 I 28 (120 * j + z) av 28 = up2 I 89 (120 * j + z) av 89
            exact row2 e7
          have r8 : ∀ x, noF (rdM (rdX I j z v av) j z v av 89 x) = true → rdM (rdX I j z v av) j z v av 89 x = 2143289344 := by
            intro x
            show noF (up2 I 89 (120 * j + z) av 89 x) = true → up2 I 89 (120 * j + z) av 89 x = 2143289344
            exact up2_q (fun w => noF w = true → w = 2143289344) hav2 (e8 x)
          have sz : ∀ x, x < 10 → ∃ z', z' ≤ 120 ∧ up2 I 87 j (nI (z + 1)) 87 x = nI z' := fun x hx => up2_q (fun w => ∃ z', z' ≤ 120 ∧ w = nI z') ⟨z + 1, by omega, rfl⟩ (e10 x hx)
          have K1 : KX (rdM (rdX I j z v av) j z v av) n m tk fd (h + q) h := by
            refine ⟨H.cnt.1.1, ⟨hm, H.cnt.1.2.1.2.1, ?_⟩, H.cnt.1.2.2.1, H.cnt.1.2.2.2⟩
            intro x hx
            show ∃ z' f' p', z' ≤ 120 ∧ f' ≤ 2591999 ∧ p' ≤ 7200 ∧ up2 I 26 j (nI (z + 1)) 26 x = nI z' ∧ I 23 x = nI f' ∧ I 24 x = nI p'
            obtain ⟨z1, f1, p1, a1, a2, a3, a4, a5, a6⟩ := H.cnt.1.2.1.2.2 x hx
            obtain ⟨z2, b1, b2⟩ := sz x (by omega)
            exact ⟨z2, f1, p1, b1, a2, a3, by rw [row2 (b := 87) (J := I) e5]; exact b2, a5, a6⟩
          have K2 : KM (rdM (rdX I j z v av) j z v av) n m tk fd (h + q) h := km_of K1 H.cnt.2.1.1.2.1 H.sur.2.2.2.2.1 H.cnt.2.1.2.1.2.1 r5 e2 e3 H.cnt.2.1.2.2.1.2.1 H.cnt.2.1.2.2.1.2.2.2.2 H.cnt.2.1.2.2.2.2.1 H.cnt.2.1.2.2.2.2.2.2
          exact Pair.mk hX hM2 rfl ⟨n, m, tk, fd, h, q, sp, ms, np, ⟨H.now, H.fin, H.dra, H.sur, ⟨K1, K2, H.cnt.2.2⟩, ⟨e1, e2, e3, e4, r5, r6, r7, r8, e9, sz⟩, H.sho, H.wat, H.shp, H.tra, H.fle, H.rou, H.win, H.pas⟩⟩
        next c4 => exact Pair.mk hX (ci_n (ci_n (ci_n (hM (tellX 1 I) hm H.cnt.2.1.2.1.2.1 hz c1) c2) c3) c4) rfl ⟨n, m, tk, fd, h, q, sp, ms, np, rel_fin H _⟩
  next c1 => exact Pair.mk hX (ci_n (hM I hm H.cnt.2.1.2.1.2.1 hz) c1) rfl ⟨n, m, tk, fd, h, q, sp, ms, np, H⟩
end S87
