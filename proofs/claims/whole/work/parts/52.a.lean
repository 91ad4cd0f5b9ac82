def o_M_waters2_0 : List Op := [(0, .bipush 60, 0, 0, .int 60), (2, .aload_n 0, 0, 0, .null), (3, .getfield 78, 12, 28, .null), (6, .imul, 0, 0, .null), (7, .istore 4, 4, 0, .null), (9, .iload_n 1, 1, 0, .null), (10, .invokestatic 233, 152, 1, .ref 0), (13, .ifCond .eq 34, 47, 0, .null), (16, .iload_n 3, 3, 0, .null), (17, .iconst 3, 0, 0, .int 3), (18, .sipush 200, 0, 0, .int 200), (21, .invokestatic 216, 150, 3, .ref 0), (24, .ifCond .eq 23, 47, 0, .null), (27, .iload_n 2, 2, 0, .null), (28, .invokestatic 226, 149, 1, .ref 0), (31, .ifCond .eq 16, 47, 0, .null), (34, .iload_n 2, 2, 0, .null), (35, .iload_n 3, 3, 0, .null), (36, .iconst 1, 0, 0, .int 1), (37, .isub, 0, 0, .null), (38, .iload 4, 4, 0, .null), (40, .imul, 0, 0, .null), (41, .iadd, 0, 0, .null), (42, .ldc 215, 0, 0, .int 2591999), (44, .if_icmp .le 6, 50, 0, .null), (47, .bipush (-2), 0, 0, .int (-2)), (49, .ireturn, 0, 0, .null), (50, .aload_n 0, 0, 0, .null), (51, .invokevirtual 283, 161, 0, .ref 12), (54, .ifCond .eq 6, 60, 0, .null), (57, .bipush (-4), 0, 0, .int (-4)), (59, .ireturn, 0, 0, .null), (60, .aload_n 0, 0, 0, .null), (61, .iload_n 1, 1, 0, .null), (62, .iload_n 2, 2, 0, .null), (63, .aload_n 0, 0, 0, .null), (64, .getfield 230, 12, 0, .null), (67, .invokevirtual 289, 162, 3, .ref 12), (70, .ifCond .ne 9, 79, 0, .null), (73, .aload_n 0, 0, 0, .null), (74, .iconst 1, 0, 0, .int 1), (75, .invokevirtual 292, 164, 1, .ref 12), (78, .ireturn, 0, 0, .null), (79, .iconst 0, 0, 0, .int 0), (80, .istore 5, 5, 0, .null)]
def o_M_waters2_1 : List Op := [(82, .iload 5, 5, 0, .null), (84, .iload_n 3, 3, 0, .null), (85, .if_icmp .ge 28, 113, 0, .null), (88, .aload_n 0, 0, 0, .null), (89, .getfield 118, 12, 47, .null), (92, .iload 5, 5, 0, .null), (94, .aload_n 0, 0, 0, .null), (95, .iload_n 1, 1, 0, .null), (96, .iload_n 2, 2, 0, .null), (97, .iload 5, 5, 0, .null), (99, .iload 4, 4, 0, .null), (101, .imul, 0, 0, .null), (102, .iadd, 0, 0, .null), (103, .invokevirtual 357, 189, 2, .ref 12), (106, .dastore, 0, 0, .null), (107, .iinc 5 1, 5, 0, .int 1), (110, .goto (-28), 82, 0, .null), (113, .iconst 0, 0, 0, .int 0), (114, .istore 5, 5, 0, .null), (116, .iconst 1, 0, 0, .int 1), (117, .istore 6, 6, 0, .null)]
def o_M_waters2_2 : List Op := [(119, .iload 6, 6, 0, .null), (121, .iload_n 3, 3, 0, .null), (122, .iconst 1, 0, 0, .int 1), (123, .isub, 0, 0, .null), (124, .if_icmp .ge 203, 327, 0, .null), (127, .iload 5, 5, 0, .null), (129, .bipush 40, 0, 0, .int 40), (131, .if_icmp .ge 196, 327, 0, .null), (134, .aload_n 0, 0, 0, .null), (135, .getfield 118, 12, 47, .null), (138, .iload 6, 6, 0, .null), (140, .daload, 0, 0, .null), (141, .aload_n 0, 0, 0, .null), (142, .getfield 118, 12, 47, .null), (145, .iload 6, 6, 0, .null), (147, .iconst 1, 0, 0, .int 1), (148, .isub, 0, 0, .null), (149, .daload, 0, 0, .null), (150, .dcmp .l, 0, 0, .null), (151, .ifCond .le 27, 178, 0, .null), (154, .aload_n 0, 0, 0, .null), (155, .getfield 118, 12, 47, .null), (158, .iload 6, 6, 0, .null), (160, .daload, 0, 0, .null), (161, .aload_n 0, 0, 0, .null), (162, .getfield 118, 12, 47, .null), (165, .iload 6, 6, 0, .null), (167, .iconst 1, 0, 0, .int 1), (168, .iadd, 0, 0, .null), (169, .daload, 0, 0, .null), (170, .dcmp .l, 0, 0, .null), (171, .ifCond .lt 7, 178, 0, .null), (174, .iconst 1, 0, 0, .int 1), (175, .goto 4, 179, 0, .null), (178, .iconst 0, 0, 0, .int 0)]
def o_M_waters2_3 : List Op := [(179, .istore 7, 7, 0, .null), (181, .aload_n 0, 0, 0, .null), (182, .getfield 118, 12, 47, .null), (185, .iload 6, 6, 0, .null), (187, .daload, 0, 0, .null), (188, .aload_n 0, 0, 0, .null), (189, .getfield 118, 12, 47, .null), (192, .iload 6, 6, 0, .null), (194, .iconst 1, 0, 0, .int 1), (195, .isub, 0, 0, .null), (196, .daload, 0, 0, .null), (197, .dcmp .g, 0, 0, .null), (198, .ifCond .ge 27, 225, 0, .null), (201, .aload_n 0, 0, 0, .null), (202, .getfield 118, 12, 47, .null), (205, .iload 6, 6, 0, .null), (207, .daload, 0, 0, .null), (208, .aload_n 0, 0, 0, .null), (209, .getfield 118, 12, 47, .null), (212, .iload 6, 6, 0, .null), (214, .iconst 1, 0, 0, .int 1), (215, .iadd, 0, 0, .null), (216, .daload, 0, 0, .null), (217, .dcmp .g, 0, 0, .null), (218, .ifCond .gt 7, 225, 0, .null), (221, .iconst 1, 0, 0, .int 1), (222, .goto 4, 226, 0, .null), (225, .iconst 0, 0, 0, .int 0)]
def o_M_waters2_4 : List Op := [(226, .istore 8, 8, 0, .null), (228, .iload 7, 7, 0, .null), (230, .ifCond .ne 8, 238, 0, .null), (233, .iload 8, 8, 0, .null), (235, .ifCond .eq 86, 321, 0, .null), (238, .aload_n 0, 0, 0, .null), (239, .getfield 106, 12, 43, .null), (242, .bipush 40, 0, 0, .int 40), (244, .iload_n 1, 1, 0, .null), (245, .imul, 0, 0, .null), (246, .iload 5, 5, 0, .null), (248, .iadd, 0, 0, .null), (249, .aload_n 0, 0, 0, .null), (250, .iload_n 1, 1, 0, .null), (251, .iload_n 2, 2, 0, .null), (252, .iload 6, 6, 0, .null), (254, .iconst 1, 0, 0, .int 1), (255, .isub, 0, 0, .null), (256, .iload 4, 4, 0, .null), (258, .imul, 0, 0, .null), (259, .iadd, 0, 0, .null), (260, .iload_n 2, 2, 0, .null), (261, .iload 6, 6, 0, .null), (263, .iconst 1, 0, 0, .int 1), (264, .iadd, 0, 0, .null), (265, .iload 4, 4, 0, .null), (267, .imul, 0, 0, .null), (268, .iadd, 0, 0, .null), (269, .iload 7, 7, 0, .null), (271, .invokevirtual 361, 190, 4, .ref 12), (274, .iastore, 0, 0, .null), (275, .aload_n 0, 0, 0, .null), (276, .getfield 109, 12, 44, .null), (279, .bipush 40, 0, 0, .int 40), (281, .iload_n 1, 1, 0, .null), (282, .imul, 0, 0, .null), (283, .iload 5, 5, 0, .null), (285, .iadd, 0, 0, .null), (286, .iload 7, 7, 0, .null), (288, .bastore, 0, 0, .null), (289, .aload_n 0, 0, 0, .null), (290, .getfield 112, 12, 45, .null), (293, .bipush 40, 0, 0, .int 40), (295, .iload_n 1, 1, 0, .null), (296, .imul, 0, 0, .null), (297, .iload 5, 5, 0, .null), (299, .iadd, 0, 0, .null), (300, .aload_n 0, 0, 0, .null), (301, .iload_n 1, 1, 0, .null), (302, .aload_n 0, 0, 0, .null), (303, .getfield 106, 12, 43, .null), (306, .bipush 40, 0, 0, .int 40), (308, .iload_n 1, 1, 0, .null), (309, .imul, 0, 0, .null), (310, .iload 5, 5, 0, .null), (312, .iadd, 0, 0, .null), (313, .iaload, 0, 0, .null), (314, .invokevirtual 357, 189, 2, .ref 12), (317, .dastore, 0, 0, .null), (318, .iinc 5 1, 5, 0, .int 1), (321, .iinc 6 1, 6, 0, .int 1), (324, .goto (-205), 119, 0, .null)]
def o_M_waters2_5 : List Op := [(327, .aload_n 0, 0, 0, .null), (328, .getfield 103, 12, 42, .null), (331, .iload_n 1, 1, 0, .null), (332, .iload 5, 5, 0, .null), (334, .iastore, 0, 0, .null), (335, .iload 5, 5, 0, .null), (337, .ireturn, 0, 0, .null)]
def v_M_waters2 : List (Nat × List Nat) := [(0, [0, 1, 2, 3]), (82, [0, 1, 2, 3, 4, 5]), (119, [0, 1, 2, 3, 4, 5, 6]), (179, [0, 1, 2, 3, 4, 5, 6]), (226, [0, 1, 2, 3, 4, 5, 6, 7]), (327, [0, 1, 5])]
def s_M_waters2 : List (Nat × Nat × List Op) := [(0, 82, o_M_waters2_0), (82, 119, o_M_waters2_1), (119, 179, o_M_waters2_2), (179, 226, o_M_waters2_3), (226, 327, o_M_waters2_4), (327, 338, o_M_waters2_5)]
set_option maxRecDepth 100000 in
theorem k_M_waters2 : MOk P_M s_M_waters2 188 9 := ⟨P_M_ok, _, rfl, rfl, rfl, by decide +kernel⟩
/-! in FORCE once, in FORCE later -/
theorem ifF_none (st dy si : Nat → Int32) (s t k : Int32) : ∀ n, n < 2 ^ 31 → (ifF st dy si s t k n = -1 ↔ ∀ i, i < n → ¬ (st i = s ∧ si i ≤ k ∧ dy i ≤ t / 86400))
  | 0, _ => ⟨fun _ i hi => absurd hi (Nat.not_lt_zero _), fun _ => rfl⟩
  | n + 1, hn => by
    have ih := ifF_none st dy si s t k n (by omega)
    unfold ifF
    split
    next c => exact ⟨fun h => absurd h (nI_neg1 (by omega)), fun h => absurd c.1 (h n (by omega))⟩
    next c =>
      refine ⟨fun h i hi => ?_, fun h => ih.mpr (fun i hi => h i (by omega))⟩
      rcases Nat.lt_or_ge i n with h1 | h1
      · exact ih.mp h i h1
      · have : i = n := by omega
        subst this
        exact fun z => c ⟨z, Or.inl h⟩
theorem ifF_later {st dy si : Nat → Int32} {s k : Int32} {a b n : Nat} (hn : n < 2 ^ 31) (hab : a ≤ b) (hb : b < 2 ^ 31) (h : ¬ ifF st dy si s (nI a) k n = -1) : ¬ ifF st dy si s (nI b) k n = -1 := by
  intro z
  rw [ifF_none _ _ _ _ _ _ n hn] at h z
  refine h (fun i hi c => z i hi ⟨c.1, c.2.1, ?_⟩)
  have e1 : ∀ x, x < 2 ^ 31 → nI x / 86400 = nI (x / 86400) := fun x hx => pk_div (d := 86400) hx (by decide) (by decide)
  have c3 := c.2.2
  rw [e1 a (by omega), i32_le, nI_toInt (by omega)] at c3
  rw [e1 b hb, i32_le, nI_toInt (by omega)]
  have : a / 86400 ≤ b / 86400 := Nat.div_le_div_right hab
  omega
def sel3 {α : Type} (ok full no : Bool) (a b c e : α) : α := match ok, full, no with
  | false, _, _ => a
  | true, true, _ => b
  | true, false, true => c
  | true, false, false => e
def wsOk (s f k st : Int32) : Bool := wi s 0 11 && wi k 3 200 && wi f 0 2591999 && wi (f + (k - 1) * 60 * st) 0 2591999
theorem wsOk_sum {f k sp : Nat} (hf : f ≤ 2591999) (hk3 : 3 ≤ k) (hk : k ≤ 200) (hsp : sp ≤ 60) : nI f + (nI k - 1) * 60 * nI sp = nI (f + 60 * sp * (k - 1)) ∧ f + 60 * sp * (k - 1) < 2 ^ 31 := by
  rw [show nI k - 1 = nI (k - 1) from nI_sub (a := k) (b := 1) (by omega), tm_X]
  refine ⟨rfl, ?_⟩
  have : 60 * sp * (k - 1) ≤ 3600 * 200 := Nat.mul_le_mul (by omega) (by omega)
  omega
theorem wsOk_e {s f k : Int32} {sp : Nat} (hsp : sp ≤ 60) (h : wsOk s f k (nI sp) = true) : ∃ s' f' k', s = nI s' ∧ f = nI f' ∧ k = nI k' ∧ s' < 12 ∧ 3 ≤ k' ∧ k' ≤ 200 ∧ f' + 60 * sp * (k' - 1) < 2592000 := by
  unfold wsOk at h
  simp only [Bool.and_eq_true] at h
  obtain ⟨⟨⟨h1, h2⟩, h3⟩, h4⟩ := h
  obtain ⟨s', hs, rfl⟩ := wi_nI (m := 11) (by decide) h1
  obtain ⟨k', hk3, hk, rfl⟩ := wi_ab (a := 3) (b := 200) (by decide) (by decide) h2
  obtain ⟨f', hf, rfl⟩ := wi_nI (m := 2591999) (by decide) h3
  have := wsOk_sum hf hk3 hk hsp
  rw [this.1] at h4
  obtain ⟨j, hj, he⟩ := wi_nI (m := 2591999) (by decide) h4
  rw [nI_eq this.2 (by omega)] at he
  exact ⟨s', f', k', rfl, rfl, rfl, by omega, hk3, hk, by omega⟩
section S52
variable (g : Gp) (d : Nat) (I : MI) (D : MD)
theorem fnX_ov (sc : MI) (s : Nat) (W : Wt) : fnX (ovX I sc) s W = ovX (fnX I s W) sc := by
  unfold fnX
  rw [ov_nc _ _ _ _ (fun _ => rfl), ov_nc _ _ _ _ (fun _ => rfl), ov_n2 _ _ _ _ _ (by rfl)]
theorem fnD_ov (sd : MD) (W : Wt) : fnD (ovD D sd) W = ovD (fnD D W) sd := by
  unfold fnD
  rw [od_nc _ _ _ _ (fun _ => rfl)]
abbrev wX (I : MI) (D : MD) (n sp : Nat) (s f k : Int32) : Wt := wsX I D n s.toNatClampNeg f.toNatClampNeg sp k.toNatClampNeg (I 0 11) (k.toNatClampNeg - 2)
theorem c_X_waters {n m tk fd b h : Nat} (hB : KX I n m tk fd b h) (sp : Nat) (hsp : sp ≤ 60) (hst : I 5 7 = nI sp) (s f k : Int32) (sc : MI) (sd : MD) : Con g SHc (d + 4) 55 [.ref 0, .int s, .int f, .int k] (ovX I sc) (ovD D sd)
    (Sc (some (.int (sel3 (wsOk s f k (nI sp)) (decide (3000 ≤ I 1 0)) (decide (sfX I s f (I 0 11) n = -1)) (-2) (-4) (-11) (nI (wX I D n sp s f k).1)))) (sel3 (wsOk s f k (nI sp)) (decide (3000 ≤ I 1 0)) (decide (sfX I s f (I 0 11) n = -1)) I I (tellX 1 I) (fnX I s.toNatClampNeg (wX I D n sp s f k))) (sel3 (wsOk s f k (nI sp)) (decide (3000 ≤ I 1 0)) (decide (sfX I s f (I 0 11) n = -1)) D D D (fnD D (wX I D n sp s f k)))) := by
  refine Con.mk (LV := v_X_waters) k_X_waters (Nat.le_of_ble_eq_true rfl) (fun K hK => ?_)
  refine hK (0, 104, o_X_waters_0) (List.mem_of_getElem? (i := 0) rfl) _ _ _ _ ?_
  have hst' : ovX I sc 5 7 = nI sp := hst
  have no : wsOk s f k (nI sp) = false → Sc (some (.int (sel3 (wsOk s f k (nI sp)) (decide (3000 ≤ I 1 0)) (decide (sfX I s f (I 0 11) n = -1)) (-2) (-4) (-11) (nI (wX I D n sp s f k).1)))) (sel3 (wsOk s f k (nI sp)) (decide (3000 ≤ I 1 0)) (decide (sfX I s f (I 0 11) n = -1)) I I (tellX 1 I) (fnX I s.toNatClampNeg (wX I D n sp s f k))) (sel3 (wsOk s f k (nI sp)) (decide (3000 ≤ I 1 0)) (decide (sfX I s f (I 0 11) n = -1)) D D D (fnD D (wX I D n sp s f k))) (some (.int (-2))) (ovX I sc) (ovD D sd) := by
    intro h
    rw [h]
    exact sc_of
  refine call_eq (c_X_isStation g (d + 3) (ovX I sc) (ovD D sd) s) ?_
  refine And.intro (fun c1 => ?_) (fun c1 => ?_)
  · exact no (by unfold wsOk; rw [bI_0.mp c1]; rfl)
  refine call_eq (c_X_isWithin g (d + 3) (ovX I sc) (ovD D sd) k 3 200) ?_
  refine And.intro (fun c2 => ?_) (fun c2 => ?_)
  · exact no (by unfold wsOk; rw [bI_0.mp c2, Bool.and_false]; rfl)
  refine call_eq (c_X_isMoment g (d + 3) (ovX I sc) (ovD D sd) f) ?_
  refine And.intro (fun c3 => ?_) (fun c3 => ?_)
  · exact no (by unfold wsOk; rw [bI_0.mp c3, Bool.and_false]; rfl)
  refine call_eq (c_X_isMoment g (d + 3) (ovX I sc) (ovD D sd) _) ?_
  rw [hst']
  refine And.intro (fun c4 => ?_) (fun c4 => ?_)
  · have hok : wsOk s f k (nI sp) = true := by unfold wsOk; rw [bI_n0.mp c1, bI_n0.mp c2, bI_n0.mp c3, bI_n0.mp c4]; rfl
    rw [hok]
    clear no
    obtain ⟨s', f', k', rfl, rfl, rfl, hs, hk3, hk, hf⟩ := wsOk_e hsp hok
    have hsc : (nI s').toNatClampNeg = s' := nI_clamp (by omega)
    have hkc : (nI k').toNatClampNeg = k' := nI_clamp (by omega)
    have hfc : (nI f').toNatClampNeg = f' := nI_clamp (by omega)
    have eW : wX I D n sp (nI s') (nI f') (nI k') = wsX I D n s' f' sp k' (I 0 11) (k' - 2) := by
      unfold wX
      rw [hsc, hkc, hfc]
    rw [eW, hsc]
    refine call_eq (c_X_areSpent g (d + 3) (ovX I sc) (ovD D sd)) ?_
    refine And.intro (fun c5 => ?_) (fun c5 => ?_)
    · rw [decide_eq_false (show ¬ 3000 ≤ I 1 0 from of_decide_eq_false (bI_0.mp c5))]
      have hmul : ∀ i, i < k' → 60 * sp * i ≤ 60 * sp * (k' - 1) := fun i hi => Nat.mul_le_mul_left _ (by omega)
      refine call_of (c_X_measure g (d + 1) I D n hB.1.1 hB.1.2.1 hB.1.2.2 sp f' k' hst hk (by omega) (nI s') (I 0 11) (fun z i hi => ifF_later (Nat.lt_of_le_of_lt hB.1.1 (by decide)) (Nat.le_add_right _ _) (by have := hmul i hi; omega) z) sc sd) ?_
      rintro o J E ⟨sd', rfl, rfl, ⟨h4, rfl⟩ | ⟨h4, rfl, h5⟩⟩
      · rw [decide_eq_true h4]
        refine And.intro (fun z => absurd rfl z) (fun _ => ?_)
        refine call_eq (c_X_tell g (d + 3) (ovX I sc) (ovD D sd') 1) ?_
        rw [tellX_ov]
        exact sc_of
      · rw [decide_eq_false h4]
        refine And.intro (fun _ => ?_) (fun z => absurd z (by decide))
        have hF : Con g SHc (d + 3) 57 [.ref 5, .int (nI s'), .int (nI f'), .int (nI k'), .int (I 0 11)] (ovX I sc) (ovD D sd') (EqP (some (.int (nI (wsX I D n s' f' sp k' (I 0 11) (k' - 2)).1))) (fnX (ovX I sc) s' (wsX I D n s' f' sp k' (I 0 11) (k' - 2))) (fnD (ovD D sd') (wsX I D n s' f' sp k' (I 0 11) (k' - 2)))) := c_X_find g d (ovX I sc) (ovD D sd') n hB.1.1 hB.1.2.1 hB.1.2.2 sp f' k' s' hst hk3 hk hs hf (I 0 11) h5
        refine call_eq (hF) ?_
        rw [fnX_ov, fnD_ov]
        exact sc_of
    · rw [decide_eq_true (show 3000 ≤ I 1 0 from of_decide_eq_true (bI_n0.mp c5))]
      exact sc_of
  · exact no (by unfold wsOk; rw [bI_0.mp c4, Bool.and_false])
/-- the reference's HEIGHT, 0 where there is none -/
def hgM (I : MI) (n : Nat) (s t : Int32) : UInt64 := if sfM I s t (I 12 0) n = -1 then 0 else hgtM I n s t (I 12 0)
theorem c_M_heightAt (n : Nat) (hn : n ≤ 60) (hI : I 12 8 = nI n) (hw : ∀ i, i < n → ∃ w, w ≤ 8 ∧ I 79 i = nI w) (s t : Int32) (sc : MI) (sd : MD) : Con g SHc (d + 2) 189 [.ref 12, .int s, .int t] (ovX I sc) (ovD D sd) (EqP (some (.double (hgM I n s t))) (ovX I sc) (ovD D (up2 sd 12 17 (hgM I n s t)))) := by
  refine Con.mk (LV := v_M_heightAt) k_M_heightAt (Nat.le_of_ble_eq_true rfl) (fun K hK => ?_)
  refine hK (0, 21, o_M_heightAt_0) (List.mem_of_getElem? (i := 0) rfl) _ _ _ _ ?_
  have hR : Con g SHc (d + 1) 162 [.ref 12, .int s, .int t, .int (I 12 0)] (ovX I sc) (up2 (ovD D sd) 12 17 0) (EqP (some (.int (bI (!decide (sfM I s t (I 12 0) n = -1))))) (ovX I sc) (ovD D (up2 sd 12 17 (hgM I n s t)))) := by
    have := c_M_rises g d (ovX I sc) (up2 (ovD D sd) 12 17 0) s t (I 12 0) n hn hI hw
    have e1 : (if ifF (ovX I sc 75) (ovX I sc 76) (ovX I sc 77) s t (I 12 0) n = -1 then up2 (ovD D sd) 12 17 0 else up2 (up2 (ovD D sd) 12 17 0) 12 17 (hgtM (ovX I sc) n s t (I 12 0))) = ovD D (up2 sd 12 17 (hgM I n s t)) := by
      by_cases c : sfM I s t (I 12 0) n = -1
      · rw [show (if ifF (ovX I sc 75) (ovX I sc 76) (ovX I sc 77) s t (I 12 0) n = -1 then up2 (ovD D sd) 12 17 0 else up2 (up2 (ovD D sd) 12 17 0) 12 17 (hgtM (ovX I sc) n s t (I 12 0))) = up2 (ovD D sd) 12 17 0 from if_pos c]
        rw [od_up2 _ _ _ _ _ rfl, hgM, if_pos c]
      · rw [show (if ifF (ovX I sc 75) (ovX I sc 76) (ovX I sc 77) s t (I 12 0) n = -1 then up2 (ovD D sd) 12 17 0 else up2 (up2 (ovD D sd) 12 17 0) 12 17 (hgtM (ovX I sc) n s t (I 12 0))) = up2 (up2 (ovD D sd) 12 17 0) 12 17 (hgtM I n s t (I 12 0)) from if_neg c]
        rw [up2_up2, od_up2 _ _ _ _ _ rfl, hgM, if_neg c]
    rw [e1] at this
    exact this
  refine call_eq (hR) ?_
  exact And.intro rfl (And.intro rfl rfl)
set_option maxHeartbeats 1000000 in
theorem c_M_halved (n : Nat) (hn : n ≤ 60) (hI : I 12 8 = nI n) (hw : ∀ i, i < n → ∃ w, w ≤ 8 ∧ I 79 i = nI w) (s : Int32) (f t : Nat) (hft : f ≤ t) (ht : t < 2592000) (hi : Bool) (sc : MI) (sd : MD) : Con g SHc (d + 3) 190 [.ref 12, .int s, .int (nI f), .int (nI t), .int (bI hi)] (ovX I sc) (ovD D sd) (fun o J E => o = some (.int (nI (hvN (fun m => upB hi (hgM I n s (nI m)) (hgM I n s (nI (m + 1)))) 32 f t))) ∧ J = ovX I sc ∧ ∃ v, E = ovD D (up2 sd 12 17 v)) := by
  refine Con.mk (LV := v_M_halved) k_M_halved (Nat.le_of_ble_eq_true rfl) (fun K hK => ?_)
  obtain ⟨p, hp⟩ : ∃ p, p = (fun m => upB hi (hgM I n s (nI m)) (hgM I n s (nI (m + 1)))) := ⟨_, rfl⟩
  rw [← hp] at hK
  obtain ⟨V, hV⟩ : ∃ V, V = hvN p 32 f t := ⟨_, rfl⟩
  rw [← hV] at hK
  have loop : ∀ r lo top v, top - lo ≤ 2 ^ r → lo ≤ top → top < 2592000 → hvN p r lo top = V → K 6 [(0, .ref 12), (1, .int s), (4, .int (bI hi)), (5, .int (nI lo)), (6, .int (nI top))] [] (ovX I sc) (ovD D (up2 sd 12 17 v)) := by
    intro r
    induction r with
    | zero =>
      intro lo top v hir h1 h2 hv
      refine hK (6, 85, o_M_halved_1) (List.mem_of_getElem? (i := 1) rfl) _ _ _ _ ?_
      refine And.intro (fun c => ?_) (fun c => ?_)
      · exact And.intro (by rw [← hv]; rfl) (And.intro rfl ⟨v, rfl⟩)
      · exact absurd (show nI top - nI lo ≤ nI 1 by rw [nI_sub h1]; exact nI_le (by simpa using hir) (by omega)) c
    | succ r ih =>
      intro lo top v hir h1 h2 hv
      have em : (nI lo + nI top) / 2 = nI ((lo + top) / 2) := by
        rw [nI_add]
        exact pk_div (d := 2) (by omega) (by decide) (by decide)
      have em1 : (nI lo + nI top) / 2 + 1 = nI ((lo + top) / 2 + 1) := by rw [em, nI_1]
      have hc1 : ∀ u, Con g SHc (d + 2) 189 [.ref 12, .int s, .int ((nI lo + nI top) / 2)] (ovX I sc) (ovD D (up2 sd 12 17 u)) (EqP (some (.double (hgM I n s (nI ((lo + top) / 2))))) (ovX I sc) (ovD D (up2 sd 12 17 (hgM I n s (nI ((lo + top) / 2)))))) := by
        intro u
        rw [em]
        have := c_M_heightAt g d I D n hn hI hw s (nI ((lo + top) / 2)) sc (up2 sd 12 17 u)
        rw [up2_up2] at this
        exact this
      have hc2 : ∀ u, Con g SHc (d + 2) 189 [.ref 12, .int s, .int ((nI lo + nI top) / 2 + 1)] (ovX I sc) (ovD D (up2 sd 12 17 u)) (EqP (some (.double (hgM I n s (nI ((lo + top) / 2 + 1))))) (ovX I sc) (ovD D (up2 sd 12 17 (hgM I n s (nI ((lo + top) / 2 + 1)))))) := by
        intro u
        rw [em1]
        have := c_M_heightAt g d I D n hn hI hw s (nI ((lo + top) / 2 + 1)) sc (up2 sd 12 17 u)
        rw [up2_up2] at this
        exact this
      unfold hvN at hv
      have h2r : 2 ^ (r + 1) = 2 ^ r + 2 ^ r := by rw [Nat.pow_succ]; omega
      refine hK (6, 85, o_M_halved_1) (List.mem_of_getElem? (i := 1) rfl) _ _ _ _ ?_
      refine And.intro (fun c1 => ?_) (fun c1 => ?_)
      · have c1 : nI top - nI lo ≤ nI 1 := c1
        rw [nI_sub h1, nI_leI (by omega) (by omega)] at c1
        rw [if_pos c1] at hv
        exact And.intro (by rw [hv]) (And.intro rfl ⟨v, rfl⟩)
      have c1 : ¬ nI top - nI lo ≤ nI 1 := c1
      rw [nI_sub h1, nI_leI (by omega) (by omega)] at c1
      rw [if_neg c1] at hv
      refine And.intro (by decide) ?_
      refine call_eq (hc1 v) ?_
      refine call_eq (hc2 _) ?_
      have goU : ∀ u, p ((lo + top) / 2) = true → K 6 [(0, .ref 12), (1, .int s), (4, .int (bI hi)), (5, .int ((nI lo + nI top) / 2)), (6, .int (nI top))] [] (ovX I sc) (ovD D (up2 sd 12 17 u)) := by
        intro u hq
        rw [if_pos hq] at hv
        have go := ih ((lo + top) / 2) top u (by omega) (by omega) h2 hv
        rw [← em] at go
        exact go
      have goD : ∀ u, p ((lo + top) / 2) = false → K 6 [(0, .ref 12), (1, .int s), (4, .int (bI hi)), (5, .int (nI lo)), (6, .int ((nI lo + nI top) / 2))] [] (ovX I sc) (ovD D (up2 sd 12 17 u)) := by
        intro u hq
        rw [if_neg (by rw [hq]; decide)] at hv
        have go := ih lo ((lo + top) / 2) u (by omega) (by omega) (by omega) hv
        rw [← em] at go
        exact go
      cases hi with
      | true =>
        refine And.intro (fun z => absurd z (by decide)) (fun _ => ?_)
        refine And.intro (fun c2 => ?_) (fun c2 => ?_)
        · refine goD _ ?_
          rw [hp]
          show (!decide _) = false
          rw [decide_eq_true c2]
          rfl
        · refine goU _ ?_
          rw [hp]
          show (!decide _) = true
          rw [decide_eq_false c2]
          rfl
      | false =>
        refine And.intro (fun _ => ?_) (fun z => absurd rfl z)
        refine And.intro (fun c2 => ?_) (fun c2 => ?_)
        · refine goD _ ?_
          rw [hp]
          show (!decide _) = false
          rw [decide_eq_true c2]
          rfl
        · refine goU _ ?_
          rw [hp]
          show (!decide _) = true
          rw [decide_eq_false c2]
          rfl
  refine hK (0, 6, o_M_halved_0) (List.mem_of_getElem? (i := 0) rfl) _ _ _ _ ?_
  have go := loop 32 f t (sd 12 17) (by omega) hft ht hV.symm
  rw [up2_same] at go
  exact go
end S52
