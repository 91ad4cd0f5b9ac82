def o_M_windows2_0 : List Op := [(0, .aload_n 0, 0, 0, .null), (1, .iload_n 1, 1, 0, .null), (2, .invokevirtual 381, 201, 1, .ref 12), (5, .ifCond .eq 38, 43, 0, .null), (8, .iload_n 2, 2, 0, .null), (9, .invokestatic 437, 224, 1, .ref 0), (12, .ifCond .eq 31, 43, 0, .null), (15, .iload 4, 4, 0, .null), (17, .iconst 1, 0, 0, .int 1), (18, .bipush 120, 0, 0, .int 120), (20, .invokestatic 216, 150, 3, .ref 0), (23, .ifCond .eq 20, 43, 0, .null), (26, .iload_n 3, 3, 0, .null), (27, .invokestatic 454, 231, 1, .ref 0), (30, .ifCond .eq 13, 43, 0, .null), (33, .iload_n 3, 3, 0, .null), (34, .iload 4, 4, 0, .null), (36, .iadd, 0, 0, .null), (37, .ldc_w 460, 0, 0, .int 43200), (40, .if_icmp .le 6, 46, 0, .null), (43, .bipush (-2), 0, 0, .int (-2)), (45, .ireturn, 0, 0, .null), (46, .aload_n 0, 0, 0, .null), (47, .invokevirtual 283, 161, 0, .ref 12), (50, .ifCond .eq 6, 56, 0, .null), (53, .bipush (-4), 0, 0, .int (-4)), (55, .ireturn, 0, 0, .null), (56, .aload_n 0, 0, 0, .null), (57, .iconst 0, 0, 0, .int 0), (58, .putfield 387, 12, 57, .null), (61, .aload_n 0, 0, 0, .null), (62, .iconst 0, 0, 0, .int 0), (63, .putfield 461, 12, 73, .null), (66, .aload_n 0, 0, 0, .null), (67, .iconst 0, 0, 0, .int 0), (68, .putfield 464, 12, 76, .null), (71, .aload_n 0, 0, 0, .null), (72, .iconst 0, 0, 0, .int 0), (73, .putfield 467, 12, 77, .null), (76, .iconst (-1), 0, 0, .int (-1)), (77, .istore 5, 5, 0, .null), (79, .iload_n 3, 3, 0, .null), (80, .istore 6, 6, 0, .null)]
def o_M_windows2_1 : List Op := [(82, .iload 6, 6, 0, .null), (84, .iload_n 3, 3, 0, .null), (85, .iload 4, 4, 0, .null), (87, .iadd, 0, 0, .null), (88, .if_icmp .gt 144, 232, 0, .null), (91, .iload 6, 6, 0, .null), (93, .iload_n 3, 3, 0, .null), (94, .iload 4, 4, 0, .null), (96, .iadd, 0, 0, .null), (97, .if_icmp .ge 14, 111, 0, .null), (100, .aload_n 0, 0, 0, .null), (101, .iload_n 1, 1, 0, .null), (102, .iload_n 2, 2, 0, .null), (103, .iload 6, 6, 0, .null), (105, .invokevirtual 457, 232, 3, .ref 12), (108, .goto 4, 112, 0, .null), (111, .iconst 0, 0, 0, .int 0)]
def o_M_windows2_2 : List Op := [(112, .istore 7, 7, 0, .null), (114, .iload 7, 7, 0, .null), (116, .bipush (-10), 0, 0, .int (-10)), (118, .if_icmp .ge 32, 150, 0, .null), (121, .aload_n 0, 0, 0, .null), (122, .dup, 0, 0, .null), (123, .getfield 464, 12, 76, .null), (126, .iconst 1, 0, 0, .int 1), (127, .iadd, 0, 0, .null), (128, .putfield 464, 12, 76, .null), (131, .aload_n 0, 0, 0, .null), (132, .bipush (-10), 0, 0, .int (-10)), (134, .iload 7, 7, 0, .null), (136, .isub, 0, 0, .null), (137, .putfield 467, 12, 77, .null), (140, .aload_n 0, 0, 0, .null), (141, .aload_n 0, 0, 0, .null), (142, .getfield 467, 12, 77, .null), (145, .invokevirtual 292, 164, 1, .ref 12), (148, .istore 7, 7, 0, .null), (150, .iload 7, 7, 0, .null), (152, .iconst 1, 0, 0, .int 1), (153, .if_icmp .ne 21, 174, 0, .null), (156, .iload 5, 5, 0, .null), (158, .iconst (-1), 0, 0, .int (-1)), (159, .if_icmp .ne 8, 167, 0, .null), (162, .iload 6, 6, 0, .null), (164, .goto 5, 169, 0, .null), (167, .iload 5, 5, 0, .null), (169, .istore 5, 5, 0, .null), (171, .goto 55, 226, 0, .null), (174, .iload 5, 5, 0, .null), (176, .iconst (-1), 0, 0, .int (-1)), (177, .if_icmp .eq 46, 223, 0, .null), (180, .aload_n 0, 0, 0, .null), (181, .getfield 461, 12, 73, .null), (184, .bipush 20, 0, 0, .int 20), (186, .if_icmp .ge 37, 223, 0, .null), (189, .aload_n 0, 0, 0, .null), (190, .getfield 182, 12, 74, .null), (193, .aload_n 0, 0, 0, .null), (194, .getfield 461, 12, 73, .null), (197, .iload 5, 5, 0, .null), (199, .iastore, 0, 0, .null), (200, .aload_n 0, 0, 0, .null), (201, .getfield 185, 12, 75, .null), (204, .aload_n 0, 0, 0, .null), (205, .getfield 461, 12, 73, .null), (208, .iload 6, 6, 0, .null), (210, .iconst 1, 0, 0, .int 1), (211, .isub, 0, 0, .null), (212, .iastore, 0, 0, .null), (213, .aload_n 0, 0, 0, .null), (214, .dup, 0, 0, .null), (215, .getfield 461, 12, 73, .null), (218, .iconst 1, 0, 0, .int 1), (219, .iadd, 0, 0, .null), (220, .putfield 461, 12, 73, .null), (223, .iconst (-1), 0, 0, .int (-1)), (224, .istore 5, 5, 0, .null), (226, .iinc 6 1, 6, 0, .int 1), (229, .goto (-147), 82, 0, .null)]
def o_M_windows2_3 : List Op := [(232, .aload_n 0, 0, 0, .null), (233, .getfield 461, 12, 73, .null), (236, .ireturn, 0, 0, .null)]
def v_M_windows2 : List (Nat × List Nat) := [(0, [0, 1, 2, 3, 4]), (82, [0, 1, 2, 3, 4, 5, 6]), (112, [0, 1, 2, 3, 4, 5, 6]), (232, [0])]
def s_M_windows2 : List (Nat × Nat × List Op) := [(0, 82, o_M_windows2_0), (82, 112, o_M_windows2_1), (112, 232, o_M_windows2_2), (232, 237, o_M_windows2_3)]
set_option maxRecDepth 100000 in
theorem k_M_windows2 : MOk P_M s_M_windows2 234 8 := ⟨P_M_ok, _, rfl, rfl, rfl, by decide +kernel⟩
/-! windows of the reference -/
abbrev Vn : Type := Int32 × Wn × Fi
def vkF (V : Vn) (t a : Int32) : Vn := if a = 1 then (if V.1 = -1 then t else V.1, V.2.1, V.2.2) else if ¬ V.1 = -1 ∧ V.2.1.1 < 20 then (-1, (V.2.1.1 + 1, up1 V.2.1.2.1 V.2.1.1 V.1, up1 V.2.1.2.2.1 V.2.1.1 (t - 1), (if a < -10 then V.2.1.2.2.2.1 + 1 else V.2.1.2.2.2.1), (if a < -10 then -10 - a else V.2.1.2.2.2.2.1), false), telF a V.2.2) else (-1, (V.2.1.1, V.2.1.2.1, V.2.1.2.2.1, (if a < -10 then V.2.1.2.2.2.1 + 1 else V.2.1.2.2.2.1), (if a < -10 then -10 - a else V.2.1.2.2.2.2.1), false), telF a V.2.2)
def vfF (mn : Nat → Int32) (a0 : Nat) (V0 : Vn) : Nat → Vn
  | 0 => V0
  | k + 1 => vkF (vfF mn a0 V0 k) (nI (a0 + k)) (mn k)
theorem vkF_le {V : Vn} (h : V.2.1.1 ≤ 20) (t a : Int32) : (vkF V t a).2.1.1 ≤ 20 := by
  unfold vkF
  split
  · exact h
  · split
    next c => exact c.2
    next => exact h
theorem vfF_le {mn : Nat → Int32} {a0 : Nat} {V0 : Vn} (h : V0.2.1.1 ≤ 20) : ∀ k, (vfF mn a0 V0 k).2.1.1 ≤ 20
  | 0 => h
  | k + 1 => vkF_le (vfF_le h k) _ _
section S73
variable (g : Gp) (d : Nat) (I : MI) (D : MD)
abbrev nfM (I : MI) (W : Wn) (F : Fi) (T : Tr) : MI := trM (wnM (fiM I F) W) T
theorem nM_sz (W : Wn) (F : Fi) (T : Tr) (m : Nat) : up2 (nfM I W F T) 12 73 (nI m) = nfM I (m, W.2) F T := by
  unfold nfM trM wnM fiM
  funext x y
  simp only [up2_at2, upc_at]
  by_cases h1 : x = 12 ∧ y = 73
  · obtain ⟨rfl, rfl⟩ := h1; simp
  · simp [h1]
theorem nM_wr (W : Wn) (F : Fi) (T : Tr) (v : Int32) : up2 (nfM I W F T) 12 76 v = nfM I (W.1, W.2.1, W.2.2.1, v, W.2.2.2.2) F T := by
  unfold nfM trM wnM fiM
  funext x y
  simp only [up2_at2, upc_at]
  by_cases h1 : x = 12 ∧ y = 76
  · obtain ⟨rfl, rfl⟩ := h1; simp
  · simp [h1]
theorem nM_wl (W : Wn) (F : Fi) (T : Tr) (v : Int32) : up2 (nfM I W F T) 12 77 v = nfM I (W.1, W.2.1, W.2.2.1, W.2.2.2.1, v, W.2.2.2.2.2) F T := by
  unfold nfM trM wnM fiM
  funext x y
  simp only [up2_at2, upc_at]
  by_cases h1 : x = 12 ∧ y = 77
  · obtain ⟨rfl, rfl⟩ := h1; simp
  · simp [h1]
theorem nM_fi (W : Wn) (F : Fi) (T : Tr) (j : Nat) (v : Int32) : up2 (nfM I W F T) 121 j v = nfM I (W.1, up1 W.2.1 j v, W.2.2) F T := by
  unfold nfM trM wnM fiM
  funext x y
  simp only [up2_at2, upc_at, up1]
  by_cases h1 : x = 121
  · subst h1; simp
  · simp [h1]
theorem nM_la (W : Wn) (F : Fi) (T : Tr) (j : Nat) (v : Int32) : up2 (nfM I W F T) 122 j v = nfM I (W.1, W.2.1, up1 W.2.2.1 j v, W.2.2.2) F T := by
  unfold nfM trM wnM fiM
  funext x y
  simp only [up2_at2, upc_at, up1]
  by_cases h1 : x = 122
  · subst h1; simp
  · simp [h1]
theorem nM_op (W : Wn) (F : Fi) (T : Tr) (b : Bool) : nfM I W F T = nfM I (W.1, W.2.1, W.2.2.1, W.2.2.2.1, W.2.2.2.2.1, b) F T := rfl
abbrev W0M (I : MI) : Wn := (0, I 121, I 122, 0, 0, false)
abbrev F0M (I : MI) : Fi := (I 12 2, I 12 1)
theorem nfM_0 : nfM I (W0M I) (F0M I) (0, I 109) = up2 (up2 (up2 (up2 I 12 57 0) 12 73 0) 12 76 0) 12 77 0 := by
  unfold nfM trM wnM fiM F0M W0M
  funext x y
  simp only [up2_at2, upc_at]
  by_cases h4 : x = 121
  · subst h4; simp
  · by_cases h5 : x = 122
    · subst h5; simp
    · by_cases h6 : x = 109
      · subst h6; simp
      · by_cases h7 : x = 12
        · subst h7
          by_cases q1 : y = 57
          · subst q1; simp [nI_0]
          · by_cases q2 : y = 77
            · subst q2; simp
            · by_cases q3 : y = 76
              · subst q3; simp
              · by_cases q4 : y = 73
                · subst q4; simp [nI_0]
                · by_cases q5 : y = 2
                  · subst q5; simp
                  · by_cases q6 : y = 1
                    · subst q6; simp
                    · simp [q1, q2, q3, q4, q5, q6]
        · simp [h4, h5, h6, h7]
abbrev mnM (I : MI) (n m tk fd b r : Nat) (s : Int32) (a : Nat) (k : Nat) : Int32 := minM I n m tk fd b r s (nI (a + k))
abbrev vfM (I : MI) (n m tk fd b r : Nat) (s : Int32) (a : Nat) : Nat → Vn := vfF (mnM I n m tk fd b r s a) a (-1, W0M I, F0M I)
abbrev wdM (I : MI) (n m tk fd b : Nat) (s rt a k : Int32) : Vn := vkF (vfM I n m tk fd b rt.toNatClampNeg s a.toNatClampNeg k.toNatClampNeg) (nI (a.toNatClampNeg + k.toNatClampNeg)) 0
set_option maxHeartbeats 2000000 in
theorem c_M_windows {n m tk fd b h ms : Nat} (hB : KM I n m tk fd b h) (hR : RM I) (hW : WM I) (hms : ms ≤ 40) (hS : I 12 49 = nI ms) (rk : Nat → Nat) (hP : rkOk (I 103) (fun j => I 107 (2 * j)) (fun j => I 107 (2 * j + 1)) rk ms) (s rt a k : Int32) (sc : MI) (sd : MD) : Con g SHc (d + 15) 234 [.ref 12, .int s, .int rt, .int a, .int k] (ovX I sc) (ovD D sd) (Sc (some (.int (sel3 (wdOk ms s rt a k) (decide (3000 ≤ I 12 2)) false (-2) (-4) 0 (nI (wdM I n m tk fd b s rt a k).2.1.1)))) (sel3 (wdOk ms s rt a k) (decide (3000 ≤ I 12 2)) false I I I (nfM I (wdM I n m tk fd b s rt a k).2.1 (wdM I n m tk fd b s rt a k).2.2 (bsT (0, I 109) (bdM I s) k.toNatClampNeg))) D) := by
  refine Con.mk (LV := v_M_windows2) k_M_windows2 (Nat.le_of_ble_eq_true rfl) (fun K hK => ?_)
  have no : wdOk ms s rt a k = false → Sc (some (.int (sel3 (wdOk ms s rt a k) (decide (3000 ≤ I 12 2)) false (-2) (-4) 0 (nI (wdM I n m tk fd b s rt a k).2.1.1)))) (sel3 (wdOk ms s rt a k) (decide (3000 ≤ I 12 2)) false I I I (nfM I (wdM I n m tk fd b s rt a k).2.1 (wdM I n m tk fd b s rt a k).2.2 (bsT (0, I 109) (bdM I s) k.toNatClampNeg))) D (some (.int (-2))) (ovX I sc) (ovD D sd) := by
    intro h
    rw [h]
    exact sc_of
  refine hK (0, 82, o_M_windows2_0) (List.mem_of_getElem? (i := 0) rfl) _ _ _ _ ?_
  refine call_eq (c_M_isShip g (d + 13) (ovX I sc) (ovD D sd) s) ?_
  have hix : wi s 0 (ovX I sc 12 49 - 1) = ix s (nI ms) := by rw [show ovX I sc 12 49 = nI ms from hS]; exact ix_wi (by omega)
  rw [hix]
  refine And.intro (fun c1 => ?_) (fun c1 => ?_)
  · exact no (by unfold wdOk; rw [bI_0.mp c1]; rfl)
  have h1 := bI_n0.mp c1
  refine call_eq (c_M_isRoute g (d + 13) (ovX I sc) (ovD D sd) rt) ?_
  refine And.intro (fun c2 => ?_) (fun c2 => ?_)
  · exact no (by unfold wdOk; rw [bI_0.mp c2, Bool.and_false]; rfl)
  have h2 := bI_n0.mp c2
  refine call_eq (c_M_in g (d + 14) (ovX I sc) (ovD D sd) k 1 120) ?_
  refine And.intro (fun c3 => ?_) (fun c3 => ?_)
  · exact no (by unfold wdOk; rw [bI_0.mp c3, Bool.and_false]; rfl)
  have h3 := bI_n0.mp c3
  refine call_eq (c_M_isMinute g (d + 13) (ovX I sc) (ovD D sd) a) ?_
  refine And.intro (fun c4 => ?_) (fun c4 => ?_)
  · exact no (by unfold wdOk; rw [bI_0.mp c4, Bool.and_false]; rfl)
  have h4 := bI_n0.mp c4
  obtain ⟨r, hr, rfl⟩ := wi_nI (m := 5) (by decide) h2
  obtain ⟨k, hk1, hk, rfl⟩ := wi_ab (a := 1) (b := 120) (by decide) (by decide) h3
  obtain ⟨a, ha, rfl⟩ := wi_nI (m := 43199) (by decide) h4
  have eS : nI a + nI k - 1 = nI (a + k - 1) := by rw [nI_add]; exact nI_sub (b := 1) (by omega)
  refine And.intro (fun c5 => ?_) (fun c5 => ?_)
  · have c5 : nI a + nI k ≤ nI 43200 := c5
    rw [nI_add, nI_leI (by omega) (by decide)] at c5
    have hok : wdOk ms s (nI r) (nI a) (nI k) = true := by
      have hle : nI (a + k - 1) ≤ (43199 : Int32) := show nI (a + k - 1) ≤ nI 43199 from nI_le (by omega) (by decide)
      unfold wdOk
      rw [h1, h2, h3, h4, eS]
      unfold wi
      rw [decide_eq_true (nI_pos' (show a + k - 1 < 2 ^ 31 by omega)), decide_eq_true hle]
      rfl
    rw [hok] at hK ⊢
    clear no
    have eW : wdM I n m tk fd b s (nI r) (nI a) (nI k) = vkF (vfM I n m tk fd b r s a k) (nI (a + k)) 0 := by
      unfold wdM
      rw [nI_clamp (show r < 2 ^ 31 by omega), nI_clamp (show a < 2 ^ 31 by omega), nI_clamp (show k < 2 ^ 31 by omega)]
    rw [eW, nI_clamp (show k < 2 ^ 31 by omega)] at hK ⊢
    refine call_eq (c_M_isFull g (d + 14) (ovX I sc) (ovD D sd)) ?_
    refine And.intro (fun c6 => ?_) (fun c6 => ?_)
    · have hfu := decide_eq_false (show ¬ 3000 ≤ I 12 2 from of_decide_eq_false (bI_0.mp c6))
      rw [hfu] at hK ⊢
      have body : ∀ (V : Vn) (T : Tr) (A : Int32) (t : Nat) (sc : MI) (sd : MD), V.2.1.1 ≤ 20 → K 82 [(0, .ref 12), (1, .int s), (2, .int (nI r)), (3, .int (nI a)), (4, .int (nI k)), (5, .int (vkF V (nI t) A).1), (6, .int (nI t + 1))] [] (ovX (nfM I (vkF V (nI t) A).2.1 (vkF V (nI t) A).2.2 T) sc) (ovD D sd) → K 112 [(0, .ref 12), (1, .int s), (2, .int (nI r)), (3, .int (nI a)), (4, .int (nI k)), (5, .int V.1), (6, .int (nI t))] [.int A] (ovX (nfM I V.2.1 V.2.2 T) sc) (ovD D sd) := by
        intro V T A t sc sd h20 go
        obtain ⟨fi, ⟨nn, G, H, wr, wl, op⟩, F⟩ := V
        dsimp only at h20
        have e1 : ∀ (W : Wn) (F : Fi), ovX (nfM I W F T) sc 12 73 = nI W.1 := fun _ _ => rfl
        have store : ∀ (W : Wn) (F : Fi), W.1 < 20 → up2 (up2 (up2 (ovX (nfM I W F T) sc) 121 (nI W.1).toNatClampNeg fi) 122 (nI W.1).toNatClampNeg (nI t - 1)) 12 73 (nI W.1 + 1) = ovX (nfM I (W.1 + 1, up1 W.2.1 W.1 fi, up1 W.2.2.1 W.1 (nI t - 1), W.2.2.2) F T) sc := by
          intro W F hW
          rw [nI_clamp (show W.1 < 2 ^ 31 by omega), nI_1, ov_n2 _ _ _ _ _ (by rfl), ov_n2 _ _ _ _ _ (by rfl), ov_n2 _ _ _ _ _ (by rfl), nM_fi, nM_la, nM_sz]
        unfold vkF at go
        refine hK (112, 232, o_M_windows2_2) (List.mem_of_getElem? (i := 2) rfl) _ _ _ _ ?_
        by_cases q : A < -10
        · have hA1 : ¬ A = 1 := fun z => by rw [z] at q; exact absurd q (by decide)
          rw [if_neg hA1] at go
          have eF : telF A F = (F.1 + 1, -10 - A) := by unfold telF; rw [if_pos q]
          rw [if_pos q, if_pos q, eF] at go
          refine And.intro (fun z => absurd q (i32_nlt.mpr z)) (fun _ => ?_)
          have hst : up2 (up2 (ovX (nfM I (nn, G, H, wr, wl, op) F T) sc) 12 76 (wr + 1)) 12 77 (-10 - A) = ovX (nfM I (nn, G, H, wr + 1, -10 - A, false) F T) sc := by
            rw [ov_n2 _ _ _ _ _ (by rfl), ov_n2 _ _ _ _ _ (by rfl), nM_wr, nM_wl]
            rfl
          have hFa : Con g SHc (d + 14) 164 [.ref 12, .int (-10 - A)] (up2 (up2 (ovX (nfM I (nn, G, H, wr, wl, op) F T) sc) 12 76 (wr + 1)) 12 77 (-10 - A)) (ovD D sd) (EqP (some (.int A)) (ovX (nfM I (nn, G, H, wr + 1, -10 - A, false) (F.1 + 1, -10 - A) T) sc) (ovD D sd)) := by
            rw [hst]
            have h9 := c_M_fails g (d + 14) (ovX (nfM I (nn, G, H, wr + 1, -10 - A, false) F T) sc) (ovD D sd) (-10 - A)
            rw [sub_self2, tellM_ov, telM_nf] at h9
            exact h9
          refine call_eq (hFa) ?_
          refine And.intro (fun _ => ?_) (fun z => absurd z hA1)
          refine And.intro (fun q2 => ?_) (fun q2 => ?_)
          · rw [if_neg (fun z => z.1 q2)] at go
            exact go
          refine And.intro (fun q3 => ?_) (fun q3 => ?_)
          · rw [e1] at q3
            have h20' : ¬ nn < 20 := fun z => absurd (show nI 20 ≤ nI nn from q3) (nI_ge z (by omega))
            rw [if_neg (fun z => h20' z.2)] at go
            exact go
          · rw [e1] at q3
            have h20' : nn < 20 := by
              rcases Nat.lt_or_ge nn 20 with z | z
              · exact z
              · exact absurd (show nI 20 ≤ nI nn from nI_le z (by omega)) q3
            rw [if_pos ⟨q2, h20'⟩] at go
            refine And.intro (by rw [e1]; exact inn_nI h20' (by decide)) ?_
            refine And.intro (inn_nI h20' (by decide)) ?_
            have st := store (nn, G, H, wr + 1, -10 - A, false) (F.1 + 1, -10 - A) h20'
            rw [← st] at go
            exact go
        · have eF : telF A F = F := by unfold telF; rw [if_neg q]
          rw [if_neg q, if_neg q, eF] at go
          refine And.intro (fun _ => ?_) (fun z => absurd (i32_nlt.mp q) z)
          refine And.intro (fun q1 => ?_) (fun q1 => ?_)
          · rw [if_neg q1] at go
            refine And.intro (fun q2 => ?_) (fun q2 => ?_)
            · rw [if_neg (fun z => z.1 q2)] at go
              exact go
            refine And.intro (fun q3 => ?_) (fun q3 => ?_)
            · rw [e1] at q3
              have h20' : ¬ nn < 20 := fun z => absurd (show nI 20 ≤ nI nn from q3) (nI_ge z (by omega))
              rw [if_neg (fun z => h20' z.2)] at go
              exact go
            · rw [e1] at q3
              have h20' : nn < 20 := by
                rcases Nat.lt_or_ge nn 20 with z | z
                · exact z
                · exact absurd (show nI 20 ≤ nI nn from nI_le z (by omega)) q3
              rw [if_pos ⟨q2, h20'⟩] at go
              refine And.intro (by rw [e1]; exact inn_nI h20' (by decide)) ?_
              refine And.intro (inn_nI h20' (by decide)) ?_
              have st := store (nn, G, H, wr, wl, false) F h20'
              rw [← st] at go
              exact go
          · rw [if_pos q1] at go
            refine And.intro (fun q2 => ?_) (fun q2 => ?_)
            · rw [if_neg q2] at go
              exact go
            · rw [if_pos q2] at go
              exact go
      have fin : ∀ sc sd V, V = vkF (vfM I n m tk fd b r s a k) (nI (a + k)) 0 → K 82 [(0, .ref 12), (1, .int s), (2, .int (nI r)), (3, .int (nI a)), (4, .int (nI k)), (5, .int V.1), (6, .int (nI (a + k) + 1))] [] (ovX (nfM I V.2.1 V.2.2 (bsT (0, I 109) (bdM I s) k)) sc) (ovD D sd) := by
        intro sc sd V hV
        rw [← hV] at hK
        have k232 : K 232 [(0, .ref 12)] [] (ovX (nfM I V.2.1 V.2.2 (bsT (0, I 109) (bdM I s) k)) sc) (ovD D sd) := by
          refine hK (232, 237, o_M_windows2_3) (List.mem_of_getElem? (i := 3) rfl) _ _ _ _ ?_
          exact sc_of
        refine hK (82, 112, o_M_windows2_1) (List.mem_of_getElem? (i := 1) rfl) _ _ _ _ ?_
        refine And.intro (fun c => ?_) (fun c => ?_)
        · exact k232
        · exact absurd (by rw [nI_add, ← nI_succ]; exact nI_lt (by omega) (by omega)) c
      have loop : ∀ q i sc sd, i + q = k → K 82 [(0, .ref 12), (1, .int s), (2, .int (nI r)), (3, .int (nI a)), (4, .int (nI k)), (5, .int (vfM I n m tk fd b r s a i).1), (6, .int (nI (a + i)))] [] (ovX (nfM I (vfM I n m tk fd b r s a i).2.1 (vfM I n m tk fd b r s a i).2.2 (bsT (0, I 109) (bdM I s) i)) sc) (ovD D sd) := by
        intro q
        induction q with
        | zero =>
          intro i sc sd hi
          have hi : i = k := by omega
          subst hi
          have hv : (vfM I n m tk fd b r s a i).2.1.1 ≤ 20 := vfF_le (Nat.zero_le _) i
          have go := fin sc sd _ rfl
          refine hK (82, 112, o_M_windows2_1) (List.mem_of_getElem? (i := 1) rfl) _ _ _ _ ?_
          refine And.intro (fun c => ?_) (fun c => ?_)
          · rw [nI_add] at c
            exact absurd c (nI_nlt (Nat.le_refl _) (by omega))
          refine And.intro (fun c7 => ?_) (fun c7 => ?_)
          · exact body (vfM I n m tk fd b r s a i) _ 0 (a + i) sc sd hv go
          · rw [nI_add] at c7
            exact absurd (nI_le (Nat.le_refl _) (by omega)) c7
        | succ q ih =>
          intro i sc sd hi
          have hv : (vfM I n m tk fd b r s a i).2.1.1 ≤ 20 := vfF_le (Nat.zero_le _) i
          have nxt : vfM I n m tk fd b r s a (i + 1) = vkF (vfM I n m tk fd b r s a i) (nI (a + i)) (mnM I n m tk fd b r s a i) := rfl
          have nxtT : bsT (0, I 109) (bdM I s) (i + 1) = begsT (bsT (0, I 109) (bdM I s) i) (bdM I s) := rfl
          have go := fun sc sd => ih (i + 1) sc sd (by omega)
          rw [nxt, nxtT] at go
          have hTl := bsT_le (T := (0, I 109)) (Nat.zero_le _) (bdM I s) i
          generalize vfM I n m tk fd b r s a i = V at go hv ⊢
          generalize bsT (0, I 109) (bdM I s) i = T at go hTl ⊢
          have hC : Con g SHc (d + 14) 232 [.ref 12, .int s, .int (nI r), .int (nI (a + i))] (ovX (nfM I V.2.1 V.2.2 T) sc) (ovD D sd) (fun o J E => ∃ sc' sd', o = some (.int (mnM I n m tk fd b r s a i)) ∧ J = ovX (nfM I V.2.1 V.2.2 (begsT T (bdM I s))) sc' ∧ E = ovD D sd') := by
            refine con_mono (c_M_looks g d (wnM (fiM I V.2.2) V.2.1) D hB hR hW hms rk hP s h1 r (a + i) (by omega) (by omega) T hTl sc sd) ?_
            rintro o J E ⟨sc', sd', rfl, rfl, rfl, -⟩
            exact ⟨sc', sd', rfl, rfl, rfl⟩
          generalize mnM I n m tk fd b r s a i = A at go hC
          refine hK (82, 112, o_M_windows2_1) (List.mem_of_getElem? (i := 1) rfl) _ _ _ _ ?_
          refine And.intro (fun c => ?_) (fun c => ?_)
          · rw [nI_add] at c
            exact absurd c (nI_nlt (by omega) (by omega))
          refine And.intro (fun c7 => ?_) (fun c7 => ?_)
          · rw [nI_add] at c7
            exact absurd c7 (nI_ge (by omega) (by omega))
          refine call_of hC ?_
          rintro o J E ⟨sc', sd', rfl, rfl, rfl⟩
          have go := go sc' sd'
          rw [show a + (i + 1) = a + i + 1 from rfl, nI_succ] at go
          exact body V _ A (a + i) sc' sd' hv go
      have go := loop k 0 sc sd (by omega)
      rw [show vfM I n m tk fd b r s a 0 = (-1, W0M I, F0M I) from rfl, show bsT (0, I 109) (bdM I s) 0 = (0, I 109) from rfl, nfM_0] at go
      rw [← ov_n2 _ _ _ _ _ (by rfl), ← ov_n2 _ _ _ _ _ (by rfl), ← ov_n2 _ _ _ _ _ (by rfl), ← ov_n2 _ _ _ _ _ (by rfl)] at go
      exact go
    · rw [decide_eq_true (show 3000 ≤ I 12 2 from of_decide_eq_true (bI_n0.mp c6))]
      exact sc_of
  · have c5 : ¬ nI a + nI k ≤ nI 43200 := c5
    rw [nI_add, nI_leI (by omega) (by decide)] at c5
    refine no ?_
    have hle : ¬ nI (a + k - 1) ≤ (43199 : Int32) := show ¬ nI (a + k - 1) ≤ nI 43199 from fun z => by
      rw [nI_leI (by omega) (by decide)] at z
      omega
    unfold wdOk
    rw [eS]
    unfold wi
    rw [decide_eq_false hle, Bool.and_false, Bool.and_false]
end S73
