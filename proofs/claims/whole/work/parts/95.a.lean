/-! ship, range, spring, stream -/
section S95
variable (g : Gp) (I : MI) (D : MD)
theorem shN_up {v : Int32} {m : Nat} (hm : m < 2 ^ 30) (h : shN v m = true) : shN v (m + 1) = true := by
  rcases shN_e (by omega) h with rfl | ⟨j, hj, rfl⟩
  · rfl
  · unfold shN ix
    rw [decide_eq_true (nI_pos' (by omega)), decide_eq_true (nI_lt (show j < m + 1 by omega) (by omega))]
    rw [Bool.and_true, Bool.or_true]
theorem okp_up {rk rk' : Nat → Nat} {m q : Nat} {v : Int32} (hk : ∀ i, i < m → rk' i = rk i) (h : okp rk m v q) : okp rk' (m + 1) v q := by
  rcases h with h | ⟨i, hi, h1, h2⟩
  · exact Or.inl h
  · exact Or.inr ⟨i, by omega, h1, by rw [hk i hi]; exact h2⟩
theorem dpS_k {ns : Nat → Int32} {m : Nat} (hm : m ≤ 40) (hn : ∀ j, j < m → ∃ k, k ≤ 4 ∧ ns j = nI k) {p : Int32} (hp : shN p m = true) : ∃ k, k ≤ 4 ∧ dpS ns p = nI k ∧ (p = -1 ∨ ∃ i, i < m ∧ p = nI i ∧ (ns i).toNatClampNeg = k) := by
  unfold dpS
  rcases shN_e (by omega) hp with rfl | ⟨j, hj, rfl⟩
  · exact ⟨0, by omega, by rw [if_pos rfl, nI_0], Or.inl rfl⟩
  · obtain ⟨k, hk, hke⟩ := hn j hj
    rw [if_neg (nI_neg1 (by omega)), nI_clamp (show j < 2 ^ 31 by omega)]
    exact ⟨k, hk, hke, Or.inr ⟨j, hj, rfl, by rw [hke, nI_clamp (by omega)]⟩⟩
theorem p_ship (hr : Rel I D) (k dr pc x p q' : Int32) : Pair g 72 199 [.int k, .int dr, .int pc, .int x, .int p, .int q'] I D := by
  obtain ⟨n, m, tk, fd, h, q, sp, ms, np, H⟩ := hr
  obtain ⟨hms, t1, t2, e1, e2, e3, e4, e5, e6, e7, e8, e9, e10⟩ := H.shp
  have hX := c_X_ship g 18 I D ms hms t1 k dr pc x p q'
  rw [e7] at hX
  have hM := fun J z => c_M_ship g 17 J D ms hms z k dr pc x p q'
  cases c1 : shOkB ms k dr pc x p q' with
  | false => exact Pair.mk (ls_0 hX c1) (ls_0 (hM I t2) c1) rfl ⟨n, m, tk, fd, h, q, sp, ms, np, H⟩
  | true =>
    cases c2 : decide (4 < deepS (I 108) k p q') with
    | true => exact Pair.mk (ls_1 hX c1 c2) (ls_1 (hM I t2) c1 c2) rfl ⟨n, m, tk, fd, h, q, sp, ms, np, H⟩
    | false =>
      cases c3 : (!decide (ms < 40)) with
      | true => exact Pair.mk (ls_2 hX c1 c2 c3) (ls_2 (hM I t2) c1 c2 c3) rfl ⟨n, m, tk, fd, h, q, sp, ms, np, H⟩
      | false =>
        have hX := ls_3 hX c1 c2 c3
        have hM := ls_3 (hM (shpX I ms k dr pc x (if k = 4 then p else -1) (if k = 4 then q' else -1) (deepS (I 108) k p q')) t2) c1 c2 c3
        have hM : Con g SHc 20 199 [.ref 12, .int k, .int dr, .int pc, .int x, .int p, .int q'] (shpX I ms k dr pc x (if k = 4 then p else -1) (if k = 4 then q' else -1) (deepS (I 108) k p q')) D (EqP (some (.int (nI ms))) (shpM (shpX I ms k dr pc x (if k = 4 then p else -1) (if k = 4 then q' else -1) (deepS (I 108) k p q')) ms k dr pc x (if k = 4 then p else -1) (if k = 4 then q' else -1) (deepS (I 108) k p q')) D) := hM
        have hlt : ms < 40 := by
          rcases Nat.lt_or_ge ms 40 with z | z
          · exact z
          · rw [decide_eq_false (by omega)] at c3
            exact absurd c3 (by decide)
        unfold shOkB at c1
        rw [Bool.and_eq_true] at c1
        have hpq : k = 4 → shN p ms = true ∧ shN q' ms = true := by
          intro z
          have c4 := c1.2
          rw [decide_eq_true z, Bool.not_true, Bool.false_or, Bool.and_eq_true] at c4
          exact c4
        obtain ⟨dp, hdp4, hdpe, hdp5⟩ : ∃ dp, dp ≤ 4 ∧ deepS (I 108) k p q' = nI dp ∧ (k = 4 → okp (fun j => (I 108 j).toNatClampNeg) ms p dp ∧ okp (fun j => (I 108 j).toNatClampNeg) ms q' dp) := by
          by_cases z : k = 4
          · obtain ⟨p1, p2⟩ := hpq z
            obtain ⟨k1, u1, u2, u3⟩ := dpS_k hms e10 p1
            obtain ⟨k2, v1, v2, v3⟩ := dpS_k hms e10 p2
            have ed : deepS (I 108) k p q' = nI (1 + (if k1 < k2 then k2 else k1)) := by
              unfold deepS mxI
              rw [if_pos z, u2, v2]
              by_cases y : k1 < k2
              · rw [if_pos (nI_lt y (by omega)), if_pos y, show (1 : Int32) = nI 1 from rfl, nI_add]
              · rw [if_neg (nI_nlt (by omega) (by omega)), if_neg y, show (1 : Int32) = nI 1 from rfl, nI_add]
            have hle : 1 + (if k1 < k2 then k2 else k1) ≤ 4 := by
              rw [ed] at c2
              have c5 := of_decide_eq_false c2
              rcases Nat.lt_or_ge 4 (1 + (if k1 < k2 then k2 else k1)) with y | y
              · exact absurd (show nI 4 < nI _ from nI_lt y (by split <;> omega)) c5
              · exact y
            refine ⟨_, hle, ed, fun _ => ⟨?_, ?_⟩⟩
            · rcases u3 with y | ⟨i, y1, y2, y3⟩
              · exact Or.inl y
              · exact Or.inr ⟨i, y1, y2, by show (I 108 i).toNatClampNeg < _; rw [y3]; split <;> omega⟩
            · rcases v3 with y | ⟨i, y1, y2, y3⟩
              · exact Or.inl y
              · exact Or.inr ⟨i, y1, y2, by show (I 108 i).toNatClampNeg < _; rw [y3]; split <;> omega⟩
          · exact ⟨0, by omega, by unfold deepS; rw [if_neg z, nI_0], fun y => absurd y z⟩
        rw [hdpe] at hX hM
        have hp2 : k = 4 → (if k = 4 then p else -1) = p ∧ (if k = 4 then q' else -1) = q' := fun z => ⟨if_pos z, if_pos z⟩
        generalize (if k = 4 then p else -1) = pa at hX hM hp2
        generalize (if k = 4 then q' else -1) = qa at hX hM hp2
        obtain ⟨S, hS⟩ : ∃ S, S = shpM (shpX I ms k dr pc x pa qa (nI dp)) ms k dr pc x pa qa (nI dp) := ⟨_, rfl⟩
        rw [← hS] at hM
        have g1 : S 42 = up2 I 42 ms k 42 := by rw [hS]; rfl
        have g2 : S 103 = up2 I 103 ms k 103 := by rw [hS]; rfl
        have g3 : S 46 = up2 I 46 ms pa 46 := by rw [hS]; rfl
        have g4 : S 47 = up2 I 47 ms qa 47 := by rw [hS]; rfl
        have g5 : ∀ y, S 107 y = if y = 2 * ms + 1 then qa else if y = 2 * ms then pa else I 107 y := by
          intro y
          rw [hS]
          show up2 (up2 I 107 (2 * ms) pa) 107 (2 * ms + 1) qa 107 y = _
          simp only [up2_at2, true_and]
        have g6 : S 108 = up2 I 108 ms (nI dp) 108 := by rw [hS]; rfl
        have f1 : S 42 = S 103 := by rw [g1, g2]; exact row2 e1
        have f2 : S 43 = S 104 := by
          rw [hS]
          show up2 I 43 ms dr 43 = up2 I 104 ms dr 104
          exact row2 e2
        have f3 : S 44 = S 105 := by
          rw [hS]
          show up2 I 44 ms pc 44 = up2 I 105 ms pc 105
          exact row2 e3
        have f4 : S 45 = S 106 := by
          rw [hS]
          show up2 I 45 ms x 45 = up2 I 106 ms x 106
          exact row2 e4
        have f5 : S 46 = fun j => S 107 (2 * j) := by
          funext j
          rw [g3, g5]
          rw [if_neg (by omega)]
          by_cases e : j = ms
          · subst e
            rw [up2_at, if_pos rfl]
          · rw [up2_off e, if_neg (by omega), e5]
        have f6 : S 47 = fun j => S 107 (2 * j + 1) := by
          funext j
          rw [g4, g5]
          by_cases e : j = ms
          · subst e
            rw [up2_at, if_pos rfl]
          · rw [up2_off e, if_neg (by omega), if_neg (by omega), e6]
        have f7 : S 48 = S 108 := by
          rw [g6, hS]
          show up2 I 48 ms (nI dp) 48 = up2 I 108 ms (nI dp) 108
          exact row2 e7
        have f8 : shOk (S 42) (S 46) (S 47) (ms + 1) := by
          intro j hj hk
          rw [g3, g4]
          rw [g1] at hk
          by_cases e : j = ms
          · subst e
            rw [up2_at] at hk
            rw [up2_at, up2_at, (hp2 hk).1, (hp2 hk).2]
            exact ⟨shN_up (by omega) (hpq hk).1, shN_up (by omega) (hpq hk).2⟩
          · rw [up2_off e] at hk
            rw [up2_off e, up2_off e]
            have h9 := e8 j (by omega) hk
            exact ⟨shN_up (by omega) h9.1, shN_up (by omega) h9.2⟩
        have hrk : ∀ i, i < ms → (S 108 i).toNatClampNeg = (I 108 i).toNatClampNeg := by
          intro i hi
          rw [g6, up2_off (by omega)]
        have f9 : rkOk (S 103) (fun j => S 107 (2 * j)) (fun j => S 107 (2 * j + 1)) (fun j => (S 108 j).toNatClampNeg) (ms + 1) := by
          rw [← f5, ← f6, ← f1]
          intro j hj
          by_cases e : j = ms
          · subst e
            have ek : (S 108 j).toNatClampNeg = dp := by rw [g6, up2_at, nI_clamp (by omega)]
            refine ⟨by show (S 108 j).toNatClampNeg ≤ 4; rw [ek]; exact hdp4, fun hk => ?_⟩
            rw [g1, up2_at] at hk
            rw [g3, g4, up2_at, up2_at, (hp2 hk).1, (hp2 hk).2]
            show okp _ (j + 1) p (S 108 j).toNatClampNeg ∧ okp _ (j + 1) q' (S 108 j).toNatClampNeg
            rw [ek]
            exact ⟨okp_up hrk (hdp5 hk).1, okp_up hrk (hdp5 hk).2⟩
          · have h9 := e9 j (by omega)
            refine ⟨by show (S 108 j).toNatClampNeg ≤ 4; rw [hrk j (by omega)]; exact h9.1, fun hk => ?_⟩
            rw [g1, up2_off e, e1] at hk
            have h10 := h9.2 hk
            rw [g3, g4, up2_off e, up2_off e, e5, e6]
            show okp _ (ms + 1) (I 107 (2 * j)) (S 108 j).toNatClampNeg ∧ okp _ (ms + 1) (I 107 (2 * j + 1)) (S 108 j).toNatClampNeg
            rw [hrk j (by omega)]
            exact ⟨okp_up hrk h10.1, okp_up hrk h10.2⟩
        have f10 : ∀ j, j < ms + 1 → ∃ k, k ≤ 4 ∧ S 108 j = nI k := by
          intro j hj
          rw [g6]
          by_cases e : j = ms
          · subst e
            exact ⟨dp, hdp4, by rw [up2_at]⟩
          · rw [up2_off e]
            exact e10 j (by omega)
        have ff : RFle S (ms + 1) := by
          intro y hy
          rw [hS]
          rcases H.fle y hy with z | ⟨z1, n', z2, z3, z4, z5, z6, z7⟩
          · exact Or.inl z
          · exact Or.inr ⟨z1, n', z2, z3, z4, z5, z6, fun i hi => ⟨(z7 i hi).1, shN_up (by omega) (z7 i hi).2⟩⟩
        have fp : RPas S np (ms + 1) := by
          rw [hS]
          obtain ⟨⟨u1, u2, u3⟩, ⟨v1, v2, v3⟩, w⟩ := H.pas
          refine ⟨⟨u1, u2, fun y hy => ?_⟩, ⟨v1, v2, fun y hy => ?_⟩, w⟩
          · obtain ⟨s', r', f', z1, z2⟩ := u3 y hy
            exact ⟨s', r', f', by omega, z2⟩
          · obtain ⟨s', r', f', z1, z2⟩ := v3 y hy
            exact ⟨s', r', f', by omega, z2⟩
        refine Pair.mk hX hM rfl ⟨n, m, tk, fd, h, q, sp, ms + 1, np, ⟨?_, ?_, ?_, ?_, ?_, ?_, ?_, ?_, ⟨by omega, by rw [hS]; rfl, by rw [hS]; rfl, f1, f2, f3, f4, f5, f6, f7, f8, f9, f10⟩, ?_, ff, ?_, ?_, fp⟩⟩
        · rw [hS]; exact H.now
        · rw [hS]; exact H.fin
        · rw [hS]; exact H.dra
        · rw [hS]; exact H.sur
        · rw [hS]; exact H.cnt
        · rw [hS]; exact H.gau
        · rw [hS]; exact H.sho
        · rw [hS]; exact H.wat
        · rw [hS]; exact H.tra
        · rw [hS]; exact H.rou
        · rw [hS]; exact H.win
end S95
