/-! ask, comes, ship -/
def cmF (t ds pc : Int32) : Int32 := if pc < 1 then -3 else if t + ds * 100 / pc < 2592000 then t + ds * 100 / pc else -3
section S62
variable (g : Gp) (d : Nat) (I : MI) (D : MD)
theorem trX_0 : up2 I 6 8 0 = trX I (0, I 49) := by
  unfold trX
  rw [upc_self]
  rfl
theorem trM_0 : up2 I 12 57 0 = trM I (0, I 109) := by
  unfold trM
  rw [upc_self]
  rfl
theorem ix_sh {s : Int32} {m : Nat} (h : ix s (nI m) = true) : shN s m = true := by
  unfold shN
  rw [h, Bool.or_true]
abbrev sX (I : MI) (r : AskR) : MI := trX I (begsT (0, I 49) r.2.2)
abbrev sM (I : MI) (r : AskR) : MI := trM I (begsT (0, I 109) r.2.2)
theorem c_X_ask (m : Nat) (hm : m ≤ 40) (hS : I 6 9 = nI m) (hP : shOk (I 42) (I 46) (I 47) m) (s w : Int32) (sc : MI) : Con g SHc (d + 14) 77 [.ref 0, .int s, .int w] (ovX I sc) D (fun o J E => E = D ∧ o = some (.int (sel3 (ix s (nI m) && wi w 0 4) (decide (3000 ≤ I 1 0)) (!decide ((askX I w 5 s).1 = 0)) (-2) (-4) (-10 - (askX I w 5 s).1) 1)) ∧ ∃ sc', J = ovX (sel3 (ix s (nI m) && wi w 0 4) (decide (3000 ≤ I 1 0)) (!decide ((askX I w 5 s).1 = 0)) I I (tellX (askX I w 5 s).1 (sX I (askX I w 5 s))) (up2 (sX I (askX I w 5 s)) 0 12 (askX I w 5 s).2.1)) sc') := by
  refine Con.mk (LV := v_X_ask) k_X_ask (Nat.le_of_ble_eq_true rfl) (fun K hK => ?_)
  refine hK (0, 84, o_X_ask_0) (List.mem_of_getElem? (i := 0) rfl) _ _ _ _ ?_
  refine call_eq (c_X_isShip g (d + 13) (ovX I sc) D s) ?_
  have hix : (decide (0 ≤ s) && decide (s < ovX I sc 6 9)) = ix s (nI m) := by rw [show ovX I sc 6 9 = nI m from hS]; rfl
  rw [hix]
  refine And.intro (fun c1 => ?_) (fun c1 => ?_)
  · rw [bI_0.mp c1]
    exact ⟨rfl, rfl, sc, rfl⟩
  have h1 := bI_n0.mp c1
  rw [h1]
  refine call_eq (c_X_isWithin g (d + 13) (ovX I sc) D w 0 4) ?_
  refine And.intro (fun c2 => ?_) (fun c2 => ?_)
  · have h2 := bI_n0.mp c2
    rw [h2]
    refine call_eq (c_X_areSpent g (d + 13) (ovX I sc) D) ?_
    refine And.intro (fun c3 => ?_) (fun c3 => ?_)
    · rw [decide_eq_false (show ¬ 3000 ≤ I 1 0 from of_decide_eq_false (bI_0.mp c3))]
      have hA := c_X_askFor g d I D m hm hP w h2 5 0 rfl s (0, I 49) sc (ix_sh h1) (Nat.zero_le _) (Or.inl rfl)
      rw [← trX_0, ← ov_n2 _ _ _ _ _ rfl] at hA
      generalize askX I w 5 s = r at hA ⊢
      refine call_of hA ?_
      rintro o J E ⟨rfl, rfl, v, rfl, hv⟩
      have ef : ovX (trX I (begsT (0, I 49) r.2.2)) (up2 sc 6 10 r.1) 6 10 = r.1 := by
        show up2 sc 6 10 r.1 6 10 = r.1
        rw [up2_at]
      refine And.intro (fun c4 => ?_) (fun c4 => ?_)
      · rw [ef] at c4
        rw [decide_eq_true c4]
        refine ⟨rfl, rfl, up2 sc 6 10 r.1, ?_⟩
        rw [hv c4]
        exact ov_n2 _ _ _ _ _ rfl
      · rw [ef] at c4
        rw [decide_eq_false c4]
        refine call_eq (c_X_tell g (d + 13) _ E _) ?_
        rw [ef]
        exact ⟨rfl, rfl, up2 sc 6 10 r.1, tellX_ov _ _ _⟩
    · rw [decide_eq_true (show 3000 ≤ I 1 0 from of_decide_eq_true (bI_n0.mp c3))]
      exact ⟨rfl, rfl, sc, rfl⟩
  · rw [bI_0.mp c2]
    exact ⟨rfl, rfl, sc, rfl⟩
theorem c_M_ask (m : Nat) (hm : m ≤ 40) (hS : I 12 49 = nI m) (rk : Nat → Nat) (hR : rkOk (I 103) (fun j => I 107 (2 * j)) (fun j => I 107 (2 * j + 1)) rk m) (s w : Int32) (sc : MI) : Con g SHc (d + 14) 202 [.ref 12, .int s, .int w] (ovX I sc) D (fun o J E => E = D ∧ o = some (.int (sel3 (ix s (nI m) && wi w 0 4) (decide (3000 ≤ I 12 2)) (!decide ((askM I w 5 s).1 = 0)) (-2) (-4) (-10 - (askM I w 5 s).1) 1)) ∧ ∃ sc', J = ovX (sel3 (ix s (nI m) && wi w 0 4) (decide (3000 ≤ I 12 2)) (!decide ((askM I w 5 s).1 = 0)) I I (tellM (askM I w 5 s).1 (sM I (askM I w 5 s))) (up2 (sM I (askM I w 5 s)) 12 56 (askM I w 5 s).2.1)) sc') := by
  refine Con.mk (LV := v_M_ask) k_M_ask (Nat.le_of_ble_eq_true rfl) (fun K hK => ?_)
  refine hK (0, 62, o_M_ask_0) (List.mem_of_getElem? (i := 0) rfl) _ _ _ _ ?_
  refine call_eq (c_M_isShip g (d + 12) (ovX I sc) D s) ?_
  have hix : wi s 0 (ovX I sc 12 49 - 1) = ix s (nI m) := by rw [show ovX I sc 12 49 = nI m from hS]; exact ix_wi (by omega)
  rw [hix]
  refine And.intro (fun c1 => ?_) (fun c1 => ?_)
  · rw [bI_0.mp c1]
    exact ⟨rfl, rfl, sc, rfl⟩
  have h1 := bI_n0.mp c1
  rw [h1]
  refine call_eq (c_M_in g (d + 13) (ovX I sc) D w 0 4) ?_
  refine And.intro (fun c2 => ?_) (fun c2 => ?_)
  · have h2 := bI_n0.mp c2
    rw [h2]
    refine call_eq (c_M_isFull g (d + 13) (ovX I sc) D) ?_
    refine And.intro (fun c3 => ?_) (fun c3 => ?_)
    · rw [decide_eq_false (show ¬ 3000 ≤ I 12 2 from of_decide_eq_false (bI_0.mp c3))]
      obtain ⟨j, hj, hje⟩ := ix_nI (show m < 2 ^ 31 by omega) h1
      have hA := c_M_asks g (d + 9) I D m hm rk hR w s (Or.inr ⟨j, hj, hje, by have := (hR j hj).1; omega⟩) (0, I 109) (Nat.zero_le _) sc
      rw [← trM_0, ← ov_n2 _ _ _ _ _ rfl] at hA
      generalize askM I w 5 s = r at hA ⊢
      refine call_of hA ?_
      rintro o J E ⟨rfl, rfl, sc', rfl, hv, -⟩
      refine And.intro (fun c4 => ?_) (fun c4 => ?_)
      · rw [decide_eq_true c4]
        refine ⟨rfl, rfl, sc', ?_⟩
        rw [show ovX (trM I (begsT (0, I 109) r.2.2)) sc' 12 62 = r.2.1 from hv c4]
        exact ov_n2 _ _ _ _ _ rfl
      · rw [decide_eq_false c4]
        refine call_eq (c_M_fails g (d + 13) _ E r.1) ?_
        exact ⟨rfl, rfl, sc', tellM_ov _ _ _⟩
    · rw [decide_eq_true (show 3000 ≤ I 12 2 from of_decide_eq_true (bI_n0.mp c3))]
      exact ⟨rfl, rfl, sc, rfl⟩
  · rw [bI_0.mp c2]
    exact ⟨rfl, rfl, sc, rfl⟩
theorem c_X_comingAt (p : Nat) (hp : p < 24) (t pc : Int32) : Con g SHc d 114 [.ref 7, .int (nI p), .int t, .int pc] I D (EqP (some (.int (cmF t (I 52 p) pc))) I D) := by
  refine Con.mk (LV := v_Routes_comingAt) k_Routes_comingAt (Nat.le_of_ble_eq_true rfl) (fun K hK => ?_)
  refine hK (0, 38, o_Routes_comingAt_0) (List.mem_of_getElem? (i := 0) rfl) _ _ _ _ ?_
  have hpc : (nI p).toNatClampNeg = p := nI_clamp (by omega)
  unfold cmF
  refine And.intro (fun c1 => ?_) (fun c1 => ?_)
  · rw [if_neg (i32_nlt.mpr c1)]
    refine And.intro (inn_nI hp (by decide)) ?_
    refine And.intro (fun z => by rw [z] at c1; exact absurd c1 (by decide)) ?_
    rw [hpc]
    refine And.intro (fun c2 => ?_) (fun c2 => ?_)
    · rw [if_neg (i32_nlt.mpr c2)]
      exact And.intro rfl (And.intro rfl rfl)
    · rw [if_pos (i32_nle.mp c2)]
      exact And.intro rfl (And.intro rfl rfl)
  · rw [if_pos (i32_nle.mp c1)]
    exact And.intro rfl (And.intro rfl rfl)
theorem c_M_comesAt (t ds pc : Int32) (h : ¬ pc = 0) : Con g SHc d 229 [.int t, .int ds, .int pc] I D (EqP (some (.int (t + ds * 100 / pc))) I D) := by
  refine Con.mk (LV := v_M_comesAt) k_M_comesAt (Nat.le_of_ble_eq_true rfl) (fun K hK => ?_)
  refine hK (0, 9, o_M_comesAt_0) (List.mem_of_getElem? (i := 0) rfl) _ _ _ _ ?_
  refine And.intro (h) ?_
  exact And.intro rfl (And.intro rfl rfl)
theorem c_X_comes (m : Nat) (hm : m ≤ 40) (hS : I 6 9 = nI m) (hP : shOk (I 42) (I 46) (I 47) m) (hL : ∀ r, r < 6 → ∃ l, l ≤ 4 ∧ I 50 r = nI l) (s rt i t : Int32) (sc : MI) : Con g SHc (d + 14) 113 [.ref 0, .int s, .int rt, .int i, .int t] (ovX I sc) D (fun o J E => E = D ∧ o = some (.int (sel3 (ix s (nI m) && wi rt 0 5 && ix i (I 50 rt.toNatClampNeg) && wi t 0 2591999) (decide (3000 ≤ I 1 0)) (!decide ((askX I 2 5 s).1 = 0)) (-2) (-4) (-10 - (askX I 2 5 s).1) (cmF t (I 52 (4 * rt.toNatClampNeg + i.toNatClampNeg)) (askX I 2 5 s).2.1))) ∧ ∃ sc', J = ovX (sel3 (ix s (nI m) && wi rt 0 5 && ix i (I 50 rt.toNatClampNeg) && wi t 0 2591999) (decide (3000 ≤ I 1 0)) (!decide ((askX I 2 5 s).1 = 0)) I I (tellX (askX I 2 5 s).1 (sX I (askX I 2 5 s))) (sX I (askX I 2 5 s))) sc') := by
  refine Con.mk (LV := v_X_comes) k_X_comes (Nat.le_of_ble_eq_true rfl) (fun K hK => ?_)
  refine hK (0, 120, o_X_comes_0) (List.mem_of_getElem? (i := 0) rfl) _ _ _ _ ?_
  refine call_eq (c_X_isShip g (d + 13) (ovX I sc) D s) ?_
  have hix : (decide (0 ≤ s) && decide (s < ovX I sc 6 9)) = ix s (nI m) := by rw [show ovX I sc 6 9 = nI m from hS]; rfl
  rw [hix]
  refine And.intro (fun c1 => ?_) (fun c1 => ?_)
  · rw [bI_0.mp c1]
    exact ⟨rfl, rfl, sc, rfl⟩
  have h1 := bI_n0.mp c1
  rw [h1]
  refine call_eq (c_X_isRoute g (d + 13) (ovX I sc) D rt) ?_
  refine And.intro (fun c2 => ?_) (fun c2 => ?_)
  · rw [bI_0.mp c2]
    exact ⟨rfl, rfl, sc, rfl⟩
  have h2 := bI_n0.mp c2
  rw [h2]
  obtain ⟨q, hq, rfl⟩ := wi_nI (m := 5) (by decide) h2
  have hqc : (nI q).toNatClampNeg = q := nI_clamp (by omega)
  obtain ⟨l, hl, hle⟩ := hL q (by omega)
  have hle' : ovX I sc 50 q = nI l := hle
  refine And.intro (inn_nI (by omega) (by decide)) ?_
  rw [hqc]
  refine call_eq (c_X_isWithin g (d + 13) (ovX I sc) D i 0 _) ?_
  rw [hle', ix_wi (show l < 2 ^ 31 by omega), hle]
  refine And.intro (fun c3 => ?_) (fun c3 => ?_)
  · rw [bI_0.mp c3]
    exact ⟨rfl, rfl, sc, rfl⟩
  have h3 := bI_n0.mp c3
  rw [h3]
  obtain ⟨j, hj, rfl⟩ := ix_nI (show l < 2 ^ 31 by omega) h3
  have hjc : (nI j).toNatClampNeg = j := nI_clamp (by omega)
  rw [hjc]
  refine call_eq (c_X_isMoment g (d + 13) (ovX I sc) D t) ?_
  refine And.intro (fun c4 => ?_) (fun c4 => ?_)
  · rw [bI_n0.mp c4]
    refine call_eq (c_X_areSpent g (d + 13) (ovX I sc) D) ?_
    refine And.intro (fun c5 => ?_) (fun c5 => ?_)
    · rw [decide_eq_false (show ¬ 3000 ≤ I 1 0 from of_decide_eq_false (bI_0.mp c5))]
      have hA := c_X_askFor g d I D m hm hP 2 (by decide) 5 0 rfl s (0, I 49) sc (ix_sh h1) (Nat.zero_le _) (Or.inl rfl)
      rw [← trX_0, ← ov_n2 _ _ _ _ _ rfl] at hA
      generalize askX I 2 5 s = r at hA ⊢
      refine call_of hA ?_
      rintro o J E ⟨rfl, rfl, v, rfl, hv⟩
      have ef : ovX (trX I (begsT (0, I 49) r.2.2)) (up2 sc 6 10 r.1) 6 10 = r.1 := by
        show up2 sc 6 10 r.1 6 10 = r.1
        rw [up2_at]
      refine And.intro (fun c6 => ?_) (fun c6 => ?_)
      · rw [ef] at c6
        rw [decide_eq_true c6, hv c6]
        have hC : Con g SHc (d + 13) 114 [.ref 7, .int (nI q * 4 + nI j), .int t, .int r.2.1] (ovX (trX I (begsT (0, I 49) r.2.2)) (up2 sc 6 10 r.1)) E (EqP (some (.int (cmF t (I 52 (4 * q + j)) r.2.1))) (ovX (trX I (begsT (0, I 49) r.2.2)) (up2 sc 6 10 r.1)) E) := by
          rw [show nI q * 4 + nI j = nI (4 * q + j) by rw [show (4 : Int32) = nI 4 from rfl, pk_mul, nI_add, Nat.mul_comm q 4]]
          exact c_X_comingAt g (d + 13) _ E (4 * q + j) (by omega) t r.2.1
        refine call_eq (hC) ?_
        exact ⟨rfl, rfl, up2 sc 6 10 r.1, rfl⟩
      · rw [ef] at c6
        rw [decide_eq_false c6]
        refine call_eq (c_X_tell g (d + 13) _ E _) ?_
        rw [ef]
        exact ⟨rfl, rfl, up2 sc 6 10 r.1, tellX_ov _ _ _⟩
    · rw [decide_eq_true (show 3000 ≤ I 1 0 from of_decide_eq_true (bI_n0.mp c5))]
      exact ⟨rfl, rfl, sc, rfl⟩
  · rw [bI_0.mp c4]
    exact ⟨rfl, rfl, sc, rfl⟩
theorem c_M_comes (m : Nat) (hm : m ≤ 40) (hS : I 12 49 = nI m) (rk : Nat → Nat) (hR : rkOk (I 103) (fun j => I 107 (2 * j)) (fun j => I 107 (2 * j + 1)) rk m) (hL : ∀ r, r < 6 → ∃ l, l ≤ 4 ∧ I 117 r = nI l) (s rt i t : Int32) (sc : MI) : Con g SHc (d + 14) 228 [.ref 12, .int s, .int rt, .int i, .int t] (ovX I sc) D (fun o J E => E = D ∧ o = some (.int (sel3 (ix s (nI m) && wi rt 0 5 && ix i (I 117 rt.toNatClampNeg) && wi t 0 2591999) (decide (3000 ≤ I 12 2)) (!decide ((askM I 2 5 s).1 = 0)) (-2) (-4) (-10 - (askM I 2 5 s).1) (cmF t (I 119 (4 * rt.toNatClampNeg + i.toNatClampNeg)) (askM I 2 5 s).2.1))) ∧ ∃ sc', J = ovX (sel3 (ix s (nI m) && wi rt 0 5 && ix i (I 117 rt.toNatClampNeg) && wi t 0 2591999) (decide (3000 ≤ I 12 2)) (!decide ((askM I 2 5 s).1 = 0)) I I (tellM (askM I 2 5 s).1 (sM I (askM I 2 5 s))) (sM I (askM I 2 5 s))) sc') := by
  refine Con.mk (LV := v_M_comes) k_M_comes (Nat.le_of_ble_eq_true rfl) (fun K hK => ?_)
  refine hK (0, 124, o_M_comes_0) (List.mem_of_getElem? (i := 0) rfl) _ _ _ _ ?_
  refine call_eq (c_M_isShip g (d + 12) (ovX I sc) D s) ?_
  have hix : wi s 0 (ovX I sc 12 49 - 1) = ix s (nI m) := by rw [show ovX I sc 12 49 = nI m from hS]; exact ix_wi (by omega)
  rw [hix]
  refine And.intro (fun c1 => ?_) (fun c1 => ?_)
  · rw [bI_0.mp c1]
    exact ⟨rfl, rfl, sc, rfl⟩
  have h1 := bI_n0.mp c1
  rw [h1]
  refine call_eq (c_M_isRoute g (d + 12) (ovX I sc) D rt) ?_
  refine And.intro (fun c2 => ?_) (fun c2 => ?_)
  · rw [bI_0.mp c2]
    exact ⟨rfl, rfl, sc, rfl⟩
  have h2 := bI_n0.mp c2
  rw [h2]
  obtain ⟨q, hq, rfl⟩ := wi_nI (m := 5) (by decide) h2
  have hqc : (nI q).toNatClampNeg = q := nI_clamp (by omega)
  obtain ⟨l, hl, hle⟩ := hL q (by omega)
  have hle' : ovX I sc 117 q = nI l := hle
  refine And.intro (inn_nI (by omega) (by decide)) ?_
  rw [hqc]
  refine call_eq (c_M_in g (d + 13) (ovX I sc) D i 0 _) ?_
  rw [hle', ix_wi (show l < 2 ^ 31 by omega), hle]
  refine And.intro (fun c3 => ?_) (fun c3 => ?_)
  · rw [bI_0.mp c3]
    exact ⟨rfl, rfl, sc, rfl⟩
  have h3 := bI_n0.mp c3
  rw [h3]
  obtain ⟨j, hj, rfl⟩ := ix_nI (show l < 2 ^ 31 by omega) h3
  have hjc : (nI j).toNatClampNeg = j := nI_clamp (by omega)
  rw [hjc]
  refine call_eq (c_M_isMoment g (d + 12) (ovX I sc) D t) ?_
  refine And.intro (fun c4 => ?_) (fun c4 => ?_)
  · rw [bI_n0.mp c4]
    refine call_eq (c_M_isFull g (d + 13) (ovX I sc) D) ?_
    refine And.intro (fun c5 => ?_) (fun c5 => ?_)
    · rw [decide_eq_false (show ¬ 3000 ≤ I 12 2 from of_decide_eq_false (bI_0.mp c5))]
      obtain ⟨i', hi', hie⟩ := ix_nI (show m < 2 ^ 31 by omega) h1
      have hA := c_M_asks g (d + 9) I D m hm rk hR 2 s (Or.inr ⟨i', hi', hie, by have := (hR i' hi').1; omega⟩) (0, I 109) (Nat.zero_le _) sc
      rw [← trM_0, ← ov_n2 _ _ _ _ _ rfl] at hA
      generalize askM I 2 5 s = r at hA ⊢
      refine call_of hA ?_
      rintro o J E ⟨rfl, rfl, sc', rfl, hv, -⟩
      refine And.intro (fun c6 => ?_) (fun c6 => ?_)
      · rw [decide_eq_true c6]
        have ev : ovX (trM I (begsT (0, I 109) r.2.2)) sc' 12 62 = r.2.1 := hv c6
        unfold cmF
        refine And.intro (fun c7 => ?_) (fun c7 => ?_)
        · rw [ev] at c7
          rw [if_neg (i32_nlt.mpr c7)]
          have e4 : (4 : Int32) * nI q + nI j = nI (4 * q + j) := nI_lin' 4 q j
          refine And.intro (by rw [e4]; exact inn_nI (by omega) (by decide)) ?_
          rw [e4, nI_clamp (show 4 * q + j < 2 ^ 31 by omega)]
          have hC : Con g SHc (d + 13) 229 [.int t, .int (I 119 (4 * q + j)), .int (ovX (trM I (begsT (0, I 109) r.2.2)) sc' 12 62)] (ovX (trM I (begsT (0, I 109) r.2.2)) sc') E (EqP (some (.int (t + I 119 (4 * q + j) * 100 / r.2.1))) (ovX (trM I (begsT (0, I 109) r.2.2)) sc') E) := by
            rw [ev]
            exact c_M_comesAt g (d + 13) _ E t _ r.2.1 (fun z => by rw [z] at c7; exact absurd c7 (by decide))
          refine call_eq (hC) ?_
          have hlt : ∀ u : Int32, u < 2592000 ↔ u ≤ 2591999 := fun u => by
            rw [i32_lt, i32_le, show ((2592000 : Int32)).toInt = 2592000 by decide, show ((2591999 : Int32)).toInt = 2591999 by decide]
            omega
          refine And.intro (fun c8 => ?_) (fun c8 => ?_)
          · rw [if_pos ((hlt _).mpr c8)]
            exact ⟨rfl, rfl, sc', rfl⟩
          · rw [if_neg (fun z => c8 ((hlt _).mp z))]
            exact ⟨rfl, rfl, sc', rfl⟩
        · rw [ev] at c7
          rw [if_pos (i32_nle.mp c7)]
          exact ⟨rfl, rfl, sc', rfl⟩
      · rw [decide_eq_false c6]
        refine call_eq (c_M_fails g (d + 13) _ E r.1) ?_
        exact ⟨rfl, rfl, sc', tellM_ov _ _ _⟩
    · rw [decide_eq_true (show 3000 ≤ I 12 2 from of_decide_eq_true (bI_n0.mp c5))]
      exact ⟨rfl, rfl, sc, rfl⟩
  · rw [bI_0.mp c4]
    exact ⟨rfl, rfl, sc, rfl⟩
end S62
