def o_Waters_find2_0 : List Op := [(0, .aload_n 0, 0, 0, .null), (1, .getfield 9, 9, 1, .null), (4, .iload_n 1, 1, 0, .null), (5, .iconst 0, 0, 0, .int 0), (6, .iastore, 0, 0, .null), (7, .iconst 1, 0, 0, .int 1), (8, .istore 5, 5, 0, .null)]
def o_Waters_find2_1 : List Op := [(10, .iload 5, 5, 0, .null), (12, .iload_n 3, 3, 0, .null), (13, .iconst 1, 0, 0, .int 1), (14, .isub, 0, 0, .null), (15, .if_icmp .ge 139, 154, 0, .null), (18, .aload_n 0, 0, 0, .null), (19, .getfield 9, 9, 1, .null), (22, .iload_n 1, 1, 0, .null), (23, .iaload, 0, 0, .null), (24, .bipush 40, 0, 0, .int 40), (26, .if_icmp .ge 128, 154, 0, .null), (29, .aload_n 0, 0, 0, .null), (30, .getfield 26, 9, 5, .null), (33, .iload 5, 5, 0, .null), (35, .iconst 1, 0, 0, .int 1), (36, .isub, 0, 0, .null), (37, .daload, 0, 0, .null), (38, .dstore 6, 6, 0, .null), (40, .aload_n 0, 0, 0, .null), (41, .getfield 26, 9, 5, .null), (44, .iload 5, 5, 0, .null), (46, .daload, 0, 0, .null), (47, .dstore 8, 8, 0, .null), (49, .aload_n 0, 0, 0, .null), (50, .getfield 26, 9, 5, .null), (53, .iload 5, 5, 0, .null), (55, .iconst 1, 0, 0, .int 1), (56, .iadd, 0, 0, .null), (57, .daload, 0, 0, .null), (58, .dstore 10, 10, 0, .null), (60, .dload 8, 8, 0, .null), (62, .dload 6, 6, 0, .null), (64, .dcmp .l, 0, 0, .null), (65, .ifCond .le 15, 80, 0, .null), (68, .dload 8, 8, 0, .null), (70, .dload 10, 10, 0, .null), (72, .dcmp .l, 0, 0, .null), (73, .ifCond .lt 7, 80, 0, .null), (76, .iconst 1, 0, 0, .int 1), (77, .goto 4, 81, 0, .null), (80, .iconst 0, 0, 0, .int 0)]
def o_Waters_find2_2 : List Op := [(81, .istore 12, 12, 0, .null), (83, .dload 8, 8, 0, .null), (85, .dload 6, 6, 0, .null), (87, .dcmp .g, 0, 0, .null), (88, .ifCond .ge 15, 103, 0, .null), (91, .dload 8, 8, 0, .null), (93, .dload 10, 10, 0, .null), (95, .dcmp .g, 0, 0, .null), (96, .ifCond .gt 7, 103, 0, .null), (99, .iconst 1, 0, 0, .int 1), (100, .goto 4, 104, 0, .null), (103, .iconst 0, 0, 0, .int 0)]
def o_Waters_find2_3 : List Op := [(104, .istore 13, 13, 0, .null), (106, .iload 12, 12, 0, .null), (108, .ifCond .ne 8, 116, 0, .null), (111, .iload 13, 13, 0, .null), (113, .ifCond .eq 35, 148, 0, .null), (116, .aload_n 0, 0, 0, .null), (117, .iload_n 1, 1, 0, .null), (118, .aload_n 0, 0, 0, .null), (119, .iload_n 1, 1, 0, .null), (120, .iload_n 2, 2, 0, .null), (121, .iload 5, 5, 0, .null), (123, .iconst 1, 0, 0, .int 1), (124, .isub, 0, 0, .null), (125, .bipush 60, 0, 0, .int 60), (127, .imul, 0, 0, .null), (128, .aload_n 0, 0, 0, .null), (129, .getfield 32, 9, 7, .null), (132, .imul, 0, 0, .null), (133, .iadd, 0, 0, .null), (134, .iload 12, 12, 0, .null), (136, .iload 4, 4, 0, .null), (138, .invokevirtual 50, 58, 4, .ref 9), (141, .iload 12, 12, 0, .null), (143, .iload 4, 4, 0, .null), (145, .invokevirtual 54, 59, 4, .ref 9), (148, .iinc 5 1, 5, 0, .int 1), (151, .goto (-141), 10, 0, .null)]
def o_Waters_find2_4 : List Op := [(154, .aload_n 0, 0, 0, .null), (155, .getfield 9, 9, 1, .null), (158, .iload_n 1, 1, 0, .null), (159, .iaload, 0, 0, .null), (160, .ireturn, 0, 0, .null)]
def v_Waters_find2 : List (Nat × List Nat) := [(0, [0, 1, 2, 3, 4]), (10, [0, 1, 2, 3, 4, 5]), (81, [0, 1, 2, 3, 4, 5, 6, 8, 10]), (104, [0, 1, 2, 3, 4, 5, 12]), (154, [0, 1])]
def s_Waters_find2 : List (Nat × Nat × List Op) := [(0, 10, o_Waters_find2_0), (10, 81, o_Waters_find2_1), (81, 104, o_Waters_find2_2), (104, 154, o_Waters_find2_3), (154, 161, o_Waters_find2_4)]
set_option maxRecDepth 100000 in
theorem k_Waters_find2 : MOk P_Waters s_Waters_find2 57 14 := ⟨P_Waters_ok, _, rfl, rfl, rfl, by decide +kernel⟩
theorem wi_ab {v : Int32} {a b : Nat} (hb : b < 2 ^ 31) (ha : a ≤ b) (h : wi v (nI a) (nI b) = true) : ∃ j, a ≤ j ∧ j ≤ b ∧ v = nI j := by
  unfold wi at h
  simp only [Bool.and_eq_true, decide_eq_true_eq] at h
  obtain ⟨h1, h2⟩ := h
  rw [i32_le, nI_toInt (by omega)] at h1
  rw [i32_le, nI_toInt (by omega)] at h2
  obtain ⟨j, hj, rfl⟩ := nI_of (x := v) (by rw [i32_lt, show ((0 : Int32)).toInt = 0 by decide]; omega)
  rw [nI_toInt hj] at h1 h2
  exact ⟨j, by omega, by omega, rfl⟩
section S51
variable (g : Gp) (d : Nat) (I : MI) (D : MD)
/-- all HEIGHTS at the steps -/
theorem c_X_measure (n : Nat) (hn : n ≤ 60) (hI : I 2 9 = nI n) (hw : ∀ i, i < n → ∃ w, w ≤ 8 ∧ I 20 i = nI w) (sp f k : Nat) (hst : I 5 7 = nI sp) (hk : k ≤ 200) (hk0 : 0 < k) (s w : Int32) (hin : ¬ sfX I s (nI f) w n = -1 → ∀ i, i < k → ¬ sfX I s (nI (f + 60 * sp * i)) w n = -1) (sc : MI) (sd : MD) : Con g SHc (d + 2) 56 [.ref 5, .int s, .int (nI f), .int (nI k), .int w] (ovX I sc) (ovD D sd)
    (fun o J E => ∃ sd', J = ovX I sc ∧ E = ovD D sd' ∧ (sfX I s (nI f) w n = -1 ∧ o = some (.int 0) ∨ ¬ sfX I s (nI f) w n = -1 ∧ o = some (.int 1) ∧ ∀ i, i < k → sd' 40 i = hgtX I n s (nI (f + 60 * sp * i)) w)) := by
  refine Con.mk (LV := v_Waters_measure) k_Waters_measure (Nat.le_of_ble_eq_true rfl) (fun K hK => ?_)
  have hst' : ovX I sc 5 7 = nI sp := hst
  have loop : ∀ r i sd, i + r = k → (∀ j, j < i → sd 40 j = hgtX I n s (nI (f + 60 * sp * j)) w) → (0 < i → ¬ sfX I s (nI f) w n = -1) → K 3 [(0, .ref 5), (1, .int s), (2, .int (nI f)), (3, .int (nI k)), (4, .int w), (5, .int (nI i))] [] (ovX I sc) (ovD D sd) := by
    intro r
    induction r with
    | zero =>
      intro i sd hi hm h0
      refine hK (3, 68, o_Waters_measure_1) (List.mem_of_getElem? (i := 1) rfl) _ _ _ _ ?_
      refine And.intro (fun c => ?_) (fun c => ?_)
      · exact And.intro (Or.inr rfl) ⟨sd, rfl, rfl, Or.inr ⟨h0 (by omega), rfl, fun j hj => hm j (by omega)⟩⟩
      · exact absurd (nI_le (by omega) (by omega)) c
    | succ r ih =>
      intro i sd hi hm h0
      have et : nI f + nI i * 60 * ovX I sc 5 7 = nI (f + 60 * sp * i) := by rw [hst', tm_X]
      have hc1 : Con g SHc (d + 1) 17 [.ref 2, .int s, .int (nI f + nI i * 60 * ovX I sc 5 7), .int w] (ovX I sc) (ovD D sd) (EqP (some (.int (sfX I s (nI (f + 60 * sp * i)) w n))) (ovX I sc) (ovD D sd)) := by
        rw [et]
        exact c_X_inForce g (d + 1) (ovX I sc) (ovD D sd) s _ w n hn hI
      have hc2 : Con g SHc (d + 1) 19 [.ref 2, .int s, .int (nI f + nI i * 60 * ovX I sc 5 7), .int w] (ovX I sc) (ovD D sd) (EqP (some (.double (hgtX I n s (nI (f + 60 * sp * i)) w))) (ovX I sc) (ovD D sd)) := by
        rw [et]
        exact c_X_heightAt g d (ovX I sc) (ovD D sd) s _ w n hn hI hw
      refine hK (3, 68, o_Waters_measure_1) (List.mem_of_getElem? (i := 1) rfl) _ _ _ _ ?_
      refine And.intro (fun c => ?_) (fun c => ?_)
      · exact absurd c (nI_ge (by omega) (by omega))
      refine call_eq (hc1) ?_
      refine And.intro (fun c1 => ?_) (fun c1 => ?_)
      · refine call_eq (hc2) ?_
        refine And.intro (inn_nI (by omega) (by decide)) ?_
        rw [nI_clamp (show i < 2 ^ 31 by omega), od_up2 _ _ _ _ _ rfl]
        have h1 : ¬ sfX I s (nI f) w n = -1 := by
          rcases Nat.eq_zero_or_pos i with h | h
          · subst h
            exact c1
          · exact h0 h
        have go := ih (i + 1) (up2 sd 40 i (hgtX I n s (nI (f + 60 * sp * i)) w)) (by omega) (fun j hj => by
          rw [up2_at2]
          by_cases hji : j = i
          · subst hji
            rw [if_pos ⟨rfl, rfl⟩]
          · rw [if_neg (fun z => hji z.2)]
            exact hm j (by omega)) (fun _ => h1)
        rw [nI_succ] at go
        exact go
      · have h1 : sfX I s (nI f) w n = -1 := by
          by_cases z : sfX I s (nI f) w n = -1
          · exact z
          · exact absurd c1 (hin z i (by omega))
        exact And.intro (Or.inl rfl) ⟨sd, rfl, rfl, Or.inl ⟨h1, rfl⟩⟩
  refine hK (0, 3, o_Waters_measure_0) (List.mem_of_getElem? (i := 0) rfl) _ _ _ _ ?_
  exact loop k 0 sd (by omega) (fun j hj => absurd hj (by omega)) (fun h => absurd h (by omega))
abbrev wsX (I : MI) (D : MD) (n s f sp k : Nat) (w : Int32) : Nat → Wt := wsG (fun t => hgtX I n (nI s) t w) s f sp k (0, I 37, I 38, D 39)
set_option maxHeartbeats 2000000 in
theorem c_X_find (n : Nat) (hn : n ≤ 60) (hI : I 2 9 = nI n) (hw : ∀ i, i < n → ∃ w, w ≤ 8 ∧ I 20 i = nI w) (sp f k s : Nat) (hst : I 5 7 = nI sp) (hk3 : 3 ≤ k) (hk : k ≤ 200) (hs : s < 12) (hf : f + 60 * sp * (k - 1) < 2592000) (w : Int32) (hm : ∀ i, i < k → D 40 i = hgtX I n (nI s) (nI (f + 60 * sp * i)) w) : Con g SHc (d + 3) 57 [.ref 5, .int (nI s), .int (nI f), .int (nI k), .int w] I D
    (EqP (some (.int (nI (wsX I D n s f sp k w (k - 2)).1))) (fnX I s (wsX I D n s f sp k w (k - 2))) (fnD D (wsX I D n s f sp k w (k - 2)))) := by
  refine Con.mk (LV := v_Waters_find2) k_Waters_find2 (Nat.le_of_ble_eq_true rfl) (fun K hK => ?_)
  have hsc : (nI s).toNatClampNeg = s := nI_clamp (by omega)
  have hs12 : inn (nI s) 12 := inn_nI hs (by decide)
  have hk1 : nI k - 1 = nI (k - 1) := nI_sub (a := k) (b := 1) (by omega)
  have fin : ∀ W, W = wsX I D n s f sp k w (k - 2) → K 154 [(0, .ref 5), (1, .int (nI s))] [] (fnX I s W) (fnD D W) := by
    intro W hW
    subst hW
    refine hK (154, 161, o_Waters_find2_4) (List.mem_of_getElem? (i := 4) rfl) _ _ _ _ ?_
    refine And.intro (hs12) ?_
    refine And.intro ?_ (And.intro rfl rfl)
    rw [hsc]
    show some (Value.int (up2 _ 36 s _ 36 s)) = _
    rw [up2_at]
  have loop : ∀ r i, i + r = k - 2 → ∀ W, W = wsX I D n s f sp k w i → K 10 [(0, .ref 5), (1, .int (nI s)), (2, .int (nI f)), (3, .int (nI k)), (4, .int w), (5, .int (nI (i + 1)))] [] (fnX I s W) (fnD D W) := by
    intro r
    induction r with
    | zero =>
      intro i hi W hW
      refine hK (10, 81, o_Waters_find2_1) (List.mem_of_getElem? (i := 1) rfl) _ _ _ _ ?_
      refine And.intro (fun c => ?_) (fun c => ?_)
      · exact fin W (by rw [hW, show i = k - 2 by omega])
      · exact absurd (by rw [hk1]; exact nI_le (by omega) (by omega)) c
    | succ r ih =>
      intro i hi W hW
      have hW40 : W.1 ≤ 40 := by
        rw [hW]
        exact wtS_le _ _ _ _ _ (Nat.zero_le _) i
      have esz : fnX I s W 36 (nI s).toNatClampNeg = nI W.1 := by
        rw [hsc]
        show up2 _ 36 s _ 36 s = _
        rw [up2_at]
      obtain ⟨be, hbe⟩ : ∃ be, be = hgtX I n (nI s) (nI (f + 60 * sp * i)) w := ⟨_, rfl⟩
      obtain ⟨he, hhe⟩ : ∃ he, he = hgtX I n (nI s) (nI (f + 60 * sp * (i + 1))) w := ⟨_, rfl⟩
      obtain ⟨bh, hbh⟩ : ∃ bh, bh = hgtX I n (nI s) (nI (f + 60 * sp * (i + 2))) w := ⟨_, rfl⟩
      have m0 : fnD D W 40 (nI (i + 1) - 1).toNatClampNeg = be := by
        rw [nI_pred, nI_clamp (by omega), hbe]
        exact hm i (by omega)
      have m1 : fnD D W 40 (nI (i + 1)).toNatClampNeg = he := by
        rw [nI_clamp (by omega), hhe]
        exact hm (i + 1) (by omega)
      have m2 : fnD D W 40 (nI (i + 1) + 1).toNatClampNeg = bh := by
        rw [nI_1, nI_clamp (by omega), hbh]
        exact hm (i + 2) (by omega)
      obtain ⟨hi', hhi⟩ : ∃ hi', hi' = hiB be he bh := ⟨_, rfl⟩
      obtain ⟨lo', hlo⟩ : ∃ lo', lo' = loB be he bh := ⟨_, rfl⟩
      have nxt : wsX I D n s f sp k w (i + 1) = if W.1 < 40 ∧ (hi' || lo') = true then wtT s W (nI (hvN (fun m => upB hi' (hgtX I n (nI s) (nI m) w) (hgtX I n (nI s) (nI (m + 1)) w)) 32 (f + 60 * sp * i) (f + 60 * sp * i + 120 * sp))) hi' (hgtX I n (nI s) (nI (hvN (fun m => upB hi' (hgtX I n (nI s) (nI m) w) (hgtX I n (nI s) (nI (m + 1)) w)) 32 (f + 60 * sp * i) (f + 60 * sp * i + 120 * sp))) w) else W := by
        rw [hhi, hlo, hbe, hhe, hbh, hW]
        rfl
      refine hK (10, 81, o_Waters_find2_1) (List.mem_of_getElem? (i := 1) rfl) _ _ _ _ ?_
      refine And.intro (fun c => ?_) (fun c => ?_)
      · rw [hk1] at c
        exact absurd c (nI_ge (by omega) (by omega))
      refine And.intro (hs12) ?_
      refine And.intro (fun c0 => ?_) (fun c0 => ?_)
      · rw [esz] at c0
        have h40 : 40 ≤ W.1 := by
          rcases Nat.lt_or_ge W.1 40 with h | h
          · exact absurd (show nI 40 ≤ nI W.1 from c0) (nI_ge h (by omega))
          · exact h
        refine fin W ?_
        have := wtS_full (k := r + 1) (i := i) (show 40 ≤ (wsX I D n s f sp k w i).1 by rw [← hW]; exact h40)
        rw [show k - 2 = i + (r + 1) by omega, hW]
        exact this.symm
      rw [esz] at c0
      have h40 : W.1 < 40 := by
        rcases Nat.lt_or_ge W.1 40 with h | h
        · exact h
        · exact absurd (nI_le h (by omega)) c0
      refine And.intro (by rw [nI_pred]; exact inn_nI (by omega) (by decide)) ?_
      refine And.intro (inn_nI (by omega) (by decide)) ?_
      refine And.intro (by rw [nI_1]; exact inn_nI (by omega) (by decide)) ?_
      have k3 : K 104 [(0, .ref 5), (1, .int (nI s)), (2, .int (nI f)), (3, .int (nI k)), (4, .int w), (5, .int (nI (i + 1))), (12, .int (bI hi'))] [.int (bI lo')] (fnX I s W) (fnD D W) := by
        have skip : (hi' || lo') = false → K 10 [(0, .ref 5), (1, .int (nI s)), (2, .int (nI f)), (3, .int (nI k)), (4, .int w), (5, .int (nI (i + 1) + 1))] [] (fnX I s W) (fnD D W) := by
          intro h
          rw [if_neg (by rw [h]; exact fun z => absurd z.2 (by decide))] at nxt
          have go := ih (i + 1) (by omega) W nxt.symm
          rw [nI_succ (i + 1)] at go
          exact go
        obtain ⟨V, hV⟩ : ∃ V, V = nI (hvN (fun m => upB hi' (hgtX I n (nI s) (nI m) w) (hgtX I n (nI s) (nI (m + 1)) w)) 32 (f + 60 * sp * i) (f + 60 * sp * i + 120 * sp)) := ⟨_, rfl⟩
        rw [← hV] at nxt
        have hmul : 60 * sp * (i + 2) ≤ 60 * sp * (k - 1) := Nat.mul_le_mul_left _ (by omega)
        have hmul2 : 60 * sp * (i + 2) = 60 * sp * i + 120 * sp := by rw [Nat.mul_add]; omega
        have hHa : Con g SHc (d + 2) 58 [.ref 5, .int (nI s), .int (nI f + (nI (i + 1) - 1) * 60 * fnX I s W 5 7), .int (bI hi'), .int w] (fnX I s W) (fnD D W) (EqP (some (.int V)) (fnX I s W) (fnD D W)) := by
          rw [show nI f + (nI (i + 1) - 1) * 60 * fnX I s W 5 7 = nI (f + 60 * sp * i) by rw [show fnX I s W 5 7 = nI sp from hst, nI_pred, tm_X], hV]
          exact c_X_halve g d (fnX I s W) (fnD D W) n hn hI hw sp hst (nI s) w (f + 60 * sp * i) (by omega) hi'
        have hKe : Con g SHc (d + 2) 59 [.ref 5, .int (nI s), .int V, .int (bI hi'), .int w] (fnX I s W) (fnD D W) (EqP none (fnX I s (wtT s W V hi' (hgtX I n (nI s) V w))) (fnD D (wtT s W V hi' (hgtX I n (nI s) V w)))) := by
          rw [← fnX_t, ← fnD_t]
          exact c_X_keep g d (fnX I s W) (fnD D W) n hn hI hw s W.1 hs h40 (by rw [hsc] at esz; exact esz) V w hi'
        have take : (hi' || lo') = true → K 10 [(0, .ref 5), (1, .int (nI s)), (2, .int (nI f)), (3, .int (nI k)), (4, .int w), (5, .int (nI (i + 1) + 1))] [] (fnX I s (wtT s W V hi' (hgtX I n (nI s) V w))) (fnD D (wtT s W V hi' (hgtX I n (nI s) V w))) := by
          intro h
          rw [if_pos ⟨h40, h⟩] at nxt
          have go := ih (i + 1) (by omega) _ nxt.symm
          rw [nI_succ (i + 1)] at go
          exact go
        refine hK (104, 154, o_Waters_find2_3) (List.mem_of_getElem? (i := 3) rfl) _ _ _ _ ?_
        cases hq : hi' with
        | true =>
          rw [hq] at take hHa hKe
          refine And.intro (fun _ => ?_) (fun z => absurd z (by decide))
          refine call_eq (hHa) ?_
          refine call_eq (hKe) ?_
          exact take rfl
        | false =>
          rw [hq] at take skip
          refine And.intro (fun z => absurd rfl z) (fun _ => ?_)
          cases hl : lo' with
          | true =>
            rw [hl] at take
            rw [hq] at hHa hKe
            refine And.intro (fun z => absurd z (by decide)) (fun _ => ?_)
            refine call_eq (hHa) ?_
            refine call_eq (hKe) ?_
            exact take rfl
          | false =>
            rw [hl] at skip
            refine And.intro (fun _ => ?_) (fun z => absurd rfl z)
            exact skip rfl
      have k2 : K 81 [(0, .ref 5), (1, .int (nI s)), (2, .int (nI f)), (3, .int (nI k)), (4, .int w), (5, .int (nI (i + 1))), (6, .double be), (8, .double he), (10, .double bh)] [.int (bI hi')] (fnX I s W) (fnD D W) := by
        refine hK (81, 104, o_Waters_find2_2) (List.mem_of_getElem? (i := 2) rfl) _ _ _ _ ?_
        refine And.intro (fun c2 => ?_) (fun c2 => ?_)
        · have : lo' = false := by
            rw [hlo]
            unfold loB
            rw [decide_eq_true c2]
            rfl
          rw [this] at k3
          exact k3
        refine And.intro (fun c3 => ?_) (fun c3 => ?_)
        · have : lo' = false := by
            rw [hlo]
            unfold loB
            rw [decide_eq_false c2, decide_eq_true c3]
            rfl
          rw [this] at k3
          exact k3
        · have : lo' = true := by
            rw [hlo]
            unfold loB
            rw [decide_eq_false c2, decide_eq_false c3]
            rfl
          rw [this] at k3
          exact k3
      rw [← m0, ← m1, ← m2] at k2
      refine And.intro (fun c2 => ?_) (fun c2 => ?_)
      · have : hi' = false := by
          rw [m1, m0] at c2
          rw [hhi]
          unfold hiB
          rw [decide_eq_true c2]
          rfl
        rw [this] at k2
        exact k2
      refine And.intro (fun c3 => ?_) (fun c3 => ?_)
      · have : hi' = false := by
          rw [m1, m0] at c2
          rw [m1, m2] at c3
          rw [hhi]
          unfold hiB
          rw [decide_eq_false c2, decide_eq_true c3]
          rfl
        rw [this] at k2
        exact k2
      · have : hi' = true := by
          rw [m1, m0] at c2
          rw [m1, m2] at c3
          rw [hhi]
          unfold hiB
          rw [decide_eq_false c2, decide_eq_false c3]
          rfl
        rw [this] at k2
        exact k2
  refine hK (0, 10, o_Waters_find2_0) (List.mem_of_getElem? (i := 0) rfl) _ _ _ _ ?_
  refine And.intro (hs12) ?_
  rw [hsc]
  have go := loop (k - 2) 0 (by omega) _ rfl
  rw [show wsX I D n s f sp k w 0 = (0, I 37, I 38, D 39) from rfl, fnD_0, ← fnX_0] at go
  exact go
end S51
