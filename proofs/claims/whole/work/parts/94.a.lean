/-! leg -/
theorem ls_0 {g : Gp} {mid : Nat} {As : List Value} {I I1 I2 I3 I4 : MI} {D D1 : MD} {ok fu no : Bool} {a b c e : Int32} (h : Con g SHc 20 mid As I D (EqP (some (.int (sel3 ok fu no a b c e))) (sel3 ok fu no I1 I2 I3 I4) D1)) (h1 : ok = false) : Con g SHc 20 mid As I D (EqP (some (.int a)) I1 D1) := by
  subst h1
  exact h
theorem ls_1 {g : Gp} {mid : Nat} {As : List Value} {I I1 I2 I3 I4 : MI} {D D1 : MD} {ok fu no : Bool} {a b c e : Int32} (h : Con g SHc 20 mid As I D (EqP (some (.int (sel3 ok fu no a b c e))) (sel3 ok fu no I1 I2 I3 I4) D1)) (h1 : ok = true) (h2 : fu = true) : Con g SHc 20 mid As I D (EqP (some (.int b)) I2 D1) := by
  subst h1
  subst h2
  exact h
theorem ls_2 {g : Gp} {mid : Nat} {As : List Value} {I I1 I2 I3 I4 : MI} {D D1 : MD} {ok fu no : Bool} {a b c e : Int32} (h : Con g SHc 20 mid As I D (EqP (some (.int (sel3 ok fu no a b c e))) (sel3 ok fu no I1 I2 I3 I4) D1)) (h1 : ok = true) (h2 : fu = false) (h3 : no = true) : Con g SHc 20 mid As I D (EqP (some (.int c)) I3 D1) := by
  subst h1
  subst h2
  subst h3
  exact h
theorem ls_3 {g : Gp} {mid : Nat} {As : List Value} {I I1 I2 I3 I4 : MI} {D D1 : MD} {ok fu no : Bool} {a b c e : Int32} (h : Con g SHc 20 mid As I D (EqP (some (.int (sel3 ok fu no a b c e))) (sel3 ok fu no I1 I2 I3 I4) D1)) (h1 : ok = true) (h2 : fu = false) (h3 : no = false) : Con g SHc 20 mid As I D (EqP (some (.int e)) I4 D1) := by
  subst h1
  subst h2
  subst h3
  exact h
section S94
variable (g : Gp) (I : MI) (D : MD)
theorem rm_ls {I : MI} (h : RM I) : ∀ r, r < 6 → 0 ≤ (lsD (I 117) (I 119) r).toInt := by
  intro r hr
  obtain ⟨l, hl, hle, hlg⟩ := h r hr
  unfold lsD
  rw [hle, nI_clamp (show l < 2 ^ 31 by omega)]
  by_cases e : l = 0
  · subst e
    rw [if_pos (by rw [nI_0])]
    decide
  · rw [if_neg (nI_ne0 (by omega) (by omega))]
    obtain ⟨q, s, a, -, -, -, -, ha, hae, -⟩ := hlg (l - 1) (by omega)
    rw [show 4 * r + l - 1 = 4 * r + (l - 1) by omega, hae, nI_toInt (by omega)]
    omega
theorem mkN_ok {mk : Int32} (h : mkB mk = true) : mkB (mkN mk) = true ∧ (noF (mkN mk) = true → mkN mk = 2143289344) := by
  unfold mkN
  split
  · exact ⟨by decide, fun _ => rfl⟩
  next z => exact ⟨h, fun y => absurd y z⟩
theorem p_leg (hr : Rel I D) (rt sh ds mk : Int32) : Pair g 105 223 [.int rt, .int sh, .int ds, .int mk] I D := by
  obtain ⟨n, m, tk, fd, h, q, sp, ms, np, H⟩ := hr
  obtain ⟨a1, a2, a3, a4, a5, a6, a7, a8⟩ := H.rou
  obtain ⟨hPX, hPM, b1, b2, b3, b4, b5, b6, b7, b8, b9⟩ := H.pas
  have hh : h ≤ 16 := H.cnt.1.2.2.2.2.2.1
  have t1 : I 4 8 = nI h := H.cnt.1.2.2.2.2.2.2
  have t2 : I 12 33 = nI h := H.cnt.2.1.2.2.2.2.2.2
  have hL : ∀ r, r < 6 → ∃ l, l ≤ 4 ∧ I 117 r = nI l := fun r hr => by
    obtain ⟨l, h1, h2, -⟩ := a6 r hr
    exact ⟨l, h1, h2⟩
  have hX := c_X_leg g 18 I D h np hh t1 hPX.1 hPX.2.1 (by rw [a1]; exact hL) rt sh ds mk
  rw [a1, a3, b2, b5] at hX
  have hM := fun J q1 q2 q3 q4 => c_M_leg g 18 J D h np hh q1 hPM.1 q2 q3 q4 rt sh ds mk
  have hD := rm_ls a6
  cases c1 : lgOk h rt sh ds mk (lsD (I 117) (I 119) rt.toNatClampNeg) with
  | false => exact Pair.mk (ls_0 hX c1) (ls_0 (hM I t2 hPM.2.1 hL hD) c1) rfl ⟨n, m, tk, fd, h, q, sp, ms, np, H⟩
  | true =>
    cases c2 : usF (I 124) (I 128) rt np with
    | true => exact Pair.mk (ls_1 hX c1 c2) (ls_1 (hM I t2 hPM.2.1 hL hD) c1 c2) rfl ⟨n, m, tk, fd, h, q, sp, ms, np, H⟩
    | false =>
      cases c3 : (!decide ((I 117 rt.toNatClampNeg).toNatClampNeg < 4)) with
      | true => exact Pair.mk (ls_2 hX c1 c2 c3) (ls_2 (hM I t2 hPM.2.1 hL hD) c1 c2 c3) rfl ⟨n, m, tk, fd, h, q, sp, ms, np, H⟩
      | false =>
        have hX := ls_3 hX c1 c2 c3
        have hM := ls_3 (hM (lgX I rt.toNatClampNeg (I 117 rt.toNatClampNeg).toNatClampNeg sh ds (mkN mk)) t2 hPM.2.1 hL hD) c1 c2 c3
        unfold lgOk at c1
        rw [Bool.and_eq_true, Bool.and_eq_true, Bool.and_eq_true] at c1
        obtain ⟨rr, hrr, rfl⟩ := wi_nI (m := 5) (by decide) c1.1.1.1
        have rc : (nI rr).toNatClampNeg = rr := nI_clamp (by omega)
        rw [rc] at hX hM c1 c3
        obtain ⟨l, hl4, hle⟩ := hL rr (by omega)
        have lc : (nI l).toNatClampNeg = l := nI_clamp (by omega)
        have hM : Con g SHc 20 223 [.ref 12, .int (nI rr), .int sh, .int ds, .int mk] (lgX I rr (I 117 rr).toNatClampNeg sh ds (mkN mk)) D (EqP (some (.int (nI ((I 117 rr).toNatClampNeg + 1)))) (lgM (lgX I rr (I 117 rr).toNatClampNeg sh ds (mkN mk)) rr (I 117 rr).toNatClampNeg sh ds (mkN mk)) D) := hM
        rw [hle, lc] at hX hM c3
        have hl : l < 4 := by
          rcases Nat.lt_or_ge l 4 with z | z
          · exact z
          · rw [decide_eq_false (by omega)] at c3
            exact absurd c3 (by decide)
        obtain ⟨q0, hq0, hqe⟩ := ix_nI (show h < 2 ^ 31 by omega) c1.1.1.2
        have hds0 := hD rr (by omega)
        obtain ⟨da, hda, hdae⟩ : ∃ a, a ≤ 50000 ∧ ds = nI a := by
          have c4 := c1.2
          unfold wi at c4
          rw [Bool.and_eq_true, decide_eq_true_eq, decide_eq_true_eq] at c4
          have z0 : ¬ ds < 0 := by
            intro z
            have c5 := c4.1
            rw [i32_le] at c5
            rw [i32_lt, show ((0 : Int32)).toInt = 0 by decide] at z
            omega
          obtain ⟨a, ha31, hae⟩ := nI_of (x := ds) z0
          refine ⟨a, ?_, hae⟩
          have c6 := c4.2
          rw [hae] at c6
          exact (nI_leI ha31 (by decide)).mp c6
        obtain ⟨m1, m2⟩ := mkN_ok c1.1.2
        obtain ⟨S, hS⟩ : ∃ S, S = lgM (lgX I rr l sh ds (mkN mk)) rr l sh ds (mkN mk) := ⟨_, rfl⟩
        rw [← hS] at hM
        have g1 : S 50 = up2 I 50 rr (nI (l + 1)) 50 := by rw [hS]; rfl
        have g2 : S 117 = up2 I 117 rr (nI (l + 1)) 117 := by rw [hS]; rfl
        have g3 : S 51 = up2 I 51 (4 * rr + l) sh 51 := by rw [hS]; rfl
        have g4 : S 118 = up2 I 118 (4 * rr + l) sh 118 := by rw [hS]; rfl
        have g5 : S 52 = up2 I 52 (4 * rr + l) ds 52 := by rw [hS]; rfl
        have g6 : S 119 = up2 I 119 (4 * rr + l) ds 119 := by rw [hS]; rfl
        have g7 : S 53 = up2 I 53 (4 * rr + l) (mkN mk) 53 := by rw [hS]; rfl
        have g8 : S 120 = up2 I 120 (4 * rr + l) (mkN mk) 120 := by rw [hS]; rfl
        have g9 : S 30 = I 30 := by rw [hS]; rfl
        have g10 : S 91 = I 91 := by rw [hS]; rfl
        obtain ⟨st0, hst0, hste⟩ := H.sho.2.2.2.2.2.2.1 q0 (by omega)
        have rM : RM S := by
          intro x hx
          rw [g2, g4, g6, g8, g10]
          by_cases e : x = rr
          · subst e
            obtain ⟨l', hl', hle', hlg⟩ := a6 x hx
            rw [hle'] at hle
            have ell : l' = l := by
              have := congrArg Int32.toNatClampNeg hle
              rw [nI_clamp (show l' < 2 ^ 31 by omega), lc] at this
              exact this
            subst ell
            refine ⟨l' + 1, by omega, by rw [up2_at], fun i hi => ?_⟩
            by_cases ei : i = l'
            · subst ei
              rw [up2_at, up2_at, up2_at]
              exact ⟨q0, st0, da, by omega, hqe, hst0, hste, hda, hdae, m1, m2⟩
            · rw [up2_off (by omega), up2_off (by omega), up2_off (by omega)]
              exact hlg i (by omega)
          · obtain ⟨l', hl', hle', hlg⟩ := a6 x hx
            refine ⟨l', hl', by rw [up2_off e]; exact hle', fun i hi => ?_⟩
            rw [up2_off (by omega), up2_off (by omega), up2_off (by omega)]
            exact hlg i hi
        have e1 : S 50 = S 117 := by rw [g1, g2]; exact row2 a1
        have e2 : S 51 = S 118 := by rw [g3, g4]; exact row2 a2
        have e3 : S 52 = S 119 := by rw [g5, g6]; exact row2 a3
        have e4 : S 53 = S 120 := by rw [g7, g8]; exact row2 a4
        have rX : RX S := by
          intro x hx
          obtain ⟨l', u1, u2, u3⟩ := rM x hx
          refine ⟨l', u1, by rw [e1]; exact u2, fun i hi => ?_⟩
          obtain ⟨q', s', a', v1, v2, v3, v4, v5, v6, -⟩ := u3 i hi
          refine ⟨q', s', a', v1, by rw [e2]; exact v2, v3, ?_, v5, by rw [e3]; exact v6⟩
          rw [g9, H.sho.1, ← g10]
          exact v4
        have w8 : HC S (I 129) np := by
          intro x hx
          have u1 : S 66 = I 66 := by rw [hS]; rfl
          have u2 : S 63 = I 63 := by rw [hS]; rfl
          have u3 : S 68 = I 68 := by rw [hS]; rfl
          rw [u1, u2, u3, g1, g5]
          intro hs j hj
          obtain ⟨s', r', f', -, -, hr', hre', -⟩ := hPX.2.2 x hx
          have hrc : (I 63 x).toNatClampNeg = r' := by rw [hre', nI_clamp (show r' < 2 ^ 31 by omega)]
          have hne : ¬ r' = rr := by
            intro z
            subst z
            have hs2 := hs
            rw [b5] at hs2
            have hre2 := hre'
            rw [b2] at hre2
            exact hs2 (usF_no (by rw [c2]; decide) x hx hre2)
          rw [hrc] at hj ⊢
          rw [up2_off hne] at hj
          have hj4 : j < 4 := by
            obtain ⟨l', u1, u2, -⟩ := a5 r' hr'
            rw [u2, nI_clamp (by omega)] at hj
            omega
          rw [up2_off (by omega)]
          have h9 := b8 x hx hs j
          rw [hrc] at h9
          exact h9 hj
        refine Pair.mk hX hM rfl ⟨n, m, tk, fd, h, q, sp, ms, np, ⟨?_, ?_, ?_, ?_, ?_, ?_, ?_, ?_, ?_, ?_, ?_, ⟨e1, e2, e3, e4, rX, rM, ?_, ?_⟩, ?_, ?_⟩⟩
        · rw [hS]; exact H.now
        · rw [hS]; exact H.fin
        · rw [hS]; exact H.dra
        · rw [hS]; exact H.sur
        · rw [hS]; exact H.cnt
        · rw [hS]; exact H.gau
        · rw [hS]; exact H.sho
        · rw [hS]; exact H.wat
        · rw [hS]; exact H.shp
        · rw [hS]; exact H.tra
        · rw [hS]; exact H.fle
        · rw [hS]; exact a7
        · rw [hS]; exact a8
        · rw [hS]; exact H.win
        · have w9 : PX S np ms ∧ PM S np ms ∧ S 62 = S 123 ∧ S 63 = S 124 ∧ S 64 = S 125 ∧ S 65 = S 127 ∧ S 66 = S 128 ∧ S 67 = S 126 ∧ WS np (S 126) (S 128) (S 129) := by
            rw [hS]
            exact ⟨hPX, hPM, b1, b2, b3, b4, b5, b6, b7⟩
          have w10 : (S 69 = fun _ => 0) ∧ (S 131 = fun _ => 0) ∧ S 11 15 = 0 ∧ S 11 16 = S 12 89 ∧ S 11 14 = S 12 88 := by
            rw [hS]
            exact b9
          have mp : S 129 = I 129 := by rw [hS]; rfl
          obtain ⟨k1, k2, k3, k4, k5, k6, k7, k8, k9⟩ := w9
          exact ⟨k1, k2, k3, k4, k5, k6, k7, k8, k9, by rw [mp]; exact w8, w10⟩
end S94
