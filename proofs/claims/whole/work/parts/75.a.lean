def o_M_isWith2_0 : List Op := [(0, .aload_n 0, 0, 0, .null), (1, .getfield 191, 12, 80, .null), (4, .iload_n 2, 2, 0, .null), (5, .iaload, 0, 0, .null), (6, .istore_n 3, 3, 0, .null), (7, .iconst 0, 0, 0, .int 0), (8, .istore 4, 4, 0, .null), (10, .iconst 0, 0, 0, .int 0), (11, .istore 5, 5, 0, .null)]
def o_M_isWith2_1 : List Op := [(13, .iload 5, 5, 0, .null), (15, .aload_n 0, 0, 0, .null), (16, .getfield 163, 12, 67, .null), (19, .iload_n 1, 1, 0, .null), (20, .iaload, 0, 0, .null), (21, .if_icmp .ge 274, 295, 0, .null), (24, .aload_n 0, 0, 0, .null), (25, .getfield 166, 12, 68, .null), (28, .iconst 4, 0, 0, .int 4), (29, .iload_n 1, 1, 0, .null), (30, .imul, 0, 0, .null), (31, .iload 5, 5, 0, .null), (33, .iadd, 0, 0, .null), (34, .iaload, 0, 0, .null), (35, .istore 6, 6, 0, .null), (37, .iconst 0, 0, 0, .int 0), (38, .istore 7, 7, 0, .null)]
def o_M_isWith2_2 : List Op := [(40, .iload 7, 7, 0, .null), (42, .aload_n 0, 0, 0, .null), (43, .getfield 163, 12, 67, .null), (46, .iload_n 3, 3, 0, .null), (47, .iaload, 0, 0, .null), (48, .if_icmp .ge 241, 289, 0, .null), (51, .aload_n 0, 0, 0, .null), (52, .getfield 166, 12, 68, .null), (55, .iconst 4, 0, 0, .int 4), (56, .iload_n 3, 3, 0, .null), (57, .imul, 0, 0, .null), (58, .iload 7, 7, 0, .null), (60, .iadd, 0, 0, .null), (61, .iaload, 0, 0, .null), (62, .istore 8, 8, 0, .null), (64, .aload_n 0, 0, 0, .null), (65, .iload_n 2, 2, 0, .null), (66, .iload 7, 7, 0, .null), (68, .invokevirtual 470, 242, 2, .ref 12), (71, .istore 9, 9, 0, .null), (73, .iload 4, 4, 0, .null), (75, .ifCond .ne 60, 135, 0, .null), (78, .iload 6, 6, 0, .null), (80, .iload 8, 8, 0, .null), (82, .if_icmp .ne 57, 139, 0, .null), (85, .aload_n 0, 0, 0, .null), (86, .getfield 88, 12, 35, .null), (89, .iload 6, 6, 0, .null), (91, .iaload, 0, 0, .null), (92, .ifCond .le 47, 139, 0, .null), (95, .aload_n 0, 0, 0, .null), (96, .getfield 209, 12, 86, .null), (99, .iload 5, 5, 0, .null), (101, .iaload, 0, 0, .null), (102, .aload_n 0, 0, 0, .null), (103, .getfield 209, 12, 86, .null), (106, .iload 5, 5, 0, .null), (108, .iaload, 0, 0, .null), (109, .aload_n 0, 0, 0, .null), (110, .getfield 88, 12, 35, .null), (113, .iload 6, 6, 0, .null), (115, .iaload, 0, 0, .null), (116, .iadd, 0, 0, .null), (117, .iload 9, 9, 0, .null), (119, .iload 9, 9, 0, .null), (121, .aload_n 0, 0, 0, .null), (122, .getfield 88, 12, 35, .null), (125, .iload 6, 6, 0, .null), (127, .iaload, 0, 0, .null), (128, .iadd, 0, 0, .null), (129, .invokestatic 473, 243, 4, .ref 0), (132, .ifCond .eq 7, 139, 0, .null), (135, .iconst 1, 0, 0, .int 1), (136, .goto 4, 140, 0, .null), (139, .iconst 0, 0, 0, .int 0)]
def o_M_isWith2_3 : List Op := [(140, .istore 4, 4, 0, .null), (142, .iload 5, 5, 0, .null), (144, .iconst 1, 0, 0, .int 1), (145, .iadd, 0, 0, .null), (146, .aload_n 0, 0, 0, .null), (147, .getfield 163, 12, 67, .null), (150, .iload_n 1, 1, 0, .null), (151, .iaload, 0, 0, .null), (152, .if_icmp .ge 131, 283, 0, .null), (155, .iload 7, 7, 0, .null), (157, .iconst 1, 0, 0, .int 1), (158, .iadd, 0, 0, .null), (159, .aload_n 0, 0, 0, .null), (160, .getfield 163, 12, 67, .null), (163, .iload_n 3, 3, 0, .null), (164, .iaload, 0, 0, .null), (165, .if_icmp .ge 118, 283, 0, .null), (168, .aload_n 0, 0, 0, .null), (169, .getfield 166, 12, 68, .null), (172, .iconst 4, 0, 0, .int 4), (173, .iload_n 1, 1, 0, .null), (174, .imul, 0, 0, .null), (175, .iload 5, 5, 0, .null), (177, .iadd, 0, 0, .null), (178, .iconst 1, 0, 0, .int 1), (179, .iadd, 0, 0, .null), (180, .iaload, 0, 0, .null), (181, .istore 10, 10, 0, .null), (183, .aload_n 0, 0, 0, .null), (184, .getfield 166, 12, 68, .null), (187, .iconst 4, 0, 0, .int 4), (188, .iload_n 3, 3, 0, .null), (189, .imul, 0, 0, .null), (190, .iload 7, 7, 0, .null), (192, .iadd, 0, 0, .null), (193, .iconst 1, 0, 0, .int 1), (194, .iadd, 0, 0, .null), (195, .iaload, 0, 0, .null), (196, .istore 11, 11, 0, .null), (198, .iload 6, 6, 0, .null), (200, .iload 8, 8, 0, .null), (202, .if_icmp .ne 10, 212, 0, .null), (205, .iload 10, 10, 0, .null), (207, .iload 11, 11, 0, .null), (209, .if_icmp .eq 17, 226, 0, .null), (212, .iload 6, 6, 0, .null), (214, .iload 11, 11, 0, .null), (216, .if_icmp .ne 14, 230, 0, .null), (219, .iload 10, 10, 0, .null), (221, .iload 8, 8, 0, .null), (223, .if_icmp .ne 7, 230, 0, .null), (226, .iconst 1, 0, 0, .int 1), (227, .goto 4, 231, 0, .null), (230, .iconst 0, 0, 0, .int 0)]
def o_M_isWith2_4 : List Op := [(231, .istore 12, 12, 0, .null), (233, .iload 4, 4, 0, .null), (235, .ifCond .ne 41, 276, 0, .null), (238, .iload 12, 12, 0, .null), (240, .ifCond .eq 40, 280, 0, .null), (243, .aload_n 0, 0, 0, .null), (244, .getfield 209, 12, 86, .null), (247, .iload 5, 5, 0, .null), (249, .iaload, 0, 0, .null), (250, .aload_n 0, 0, 0, .null), (251, .getfield 209, 12, 86, .null), (254, .iload 5, 5, 0, .null), (256, .iconst 1, 0, 0, .int 1), (257, .iadd, 0, 0, .null), (258, .iaload, 0, 0, .null), (259, .iload 9, 9, 0, .null), (261, .aload_n 0, 0, 0, .null), (262, .iload_n 2, 2, 0, .null), (263, .iload 7, 7, 0, .null), (265, .iconst 1, 0, 0, .int 1), (266, .iadd, 0, 0, .null), (267, .invokevirtual 470, 242, 2, .ref 12), (270, .invokestatic 473, 243, 4, .ref 0), (273, .ifCond .eq 7, 280, 0, .null), (276, .iconst 1, 0, 0, .int 1), (277, .goto 4, 281, 0, .null), (280, .iconst 0, 0, 0, .int 0), (281, .istore 4, 4, 0, .null)]
def o_M_isWith2_5 : List Op := [(283, .iinc 7 1, 7, 0, .int 1), (286, .goto (-246), 40, 0, .null)]
def o_M_isWith2_6 : List Op := [(289, .iinc 5 1, 5, 0, .int 1), (292, .goto (-279), 13, 0, .null)]
def o_M_isWith2_7 : List Op := [(295, .iload 4, 4, 0, .null), (297, .ireturn, 1, 0, .null)]
def v_M_isWith2 : List (Nat × List Nat) := [(0, [0, 1, 2]), (13, [0, 1, 2, 3, 4, 5]), (40, [0, 1, 2, 3, 4, 5, 6, 7]), (140, [0, 1, 2, 3, 5, 6, 7, 8, 9]), (231, [0, 1, 2, 3, 4, 5, 6, 7, 9]), (283, [0, 1, 2, 3, 4, 5, 6, 7]), (289, [0, 1, 2, 3, 4, 5]), (295, [4])]
def s_M_isWith2 : List (Nat × Nat × List Op) := [(0, 13, o_M_isWith2_0), (13, 40, o_M_isWith2_1), (40, 140, o_M_isWith2_2), (140, 231, o_M_isWith2_3), (231, 283, o_M_isWith2_4), (283, 289, o_M_isWith2_5), (289, 295, o_M_isWith2_6), (295, 298, o_M_isWith2_7)]
set_option maxRecDepth 100000 in
theorem k_M_isWith2 : MOk P_M s_M_isWith2 241 13 := ⟨P_M_ok, _, rfl, rfl, rfl, by decide +kernel⟩
section S75
variable (g : Gp) (d : Nat) (I : MI) (D : MD)
def atM (I : MI) (q r' j : Nat) : Int32 := 60 * I 128 q + I 119 (4 * r' + j) * 100 / I 129 q
theorem c_M_comesTo (q j r' : Nat) (hq : q < 40) (hj : j < 4) (hr' : r' < 6) (hrt : I 124 q = nI r') (hpp : ¬ I 129 q = 0) : Con g SHc (d + 1) 242 [.ref 12, .int (nI q), .int (nI j)] I D (EqP (some (.int (atM I q r' j))) I D) := by
  refine Con.mk (LV := v_M_comesTo) k_M_comesTo (Nat.le_of_ble_eq_true rfl) (fun K hK => ?_)
  refine hK (0, 34, o_M_comesTo_0) (List.mem_of_getElem? (i := 0) rfl) _ _ _ _ ?_
  have qc : (nI q).toNatClampNeg = q := nI_clamp (by omega)
  have hq40 : inn (nI q) 40 := inn_nI hq (by decide)
  have e2 : 4 * nI r' + nI j = nI (4 * r' + j) := nI_lin' 4 r' j
  refine And.intro (hq40) ?_
  refine And.intro (hq40) ?_
  rw [qc, hrt]
  refine And.intro (by rw [e2]; exact inn_nI (by omega) (by decide)) ?_
  rw [e2, nI_clamp (show 4 * r' + j < 2 ^ 31 by omega)]
  refine And.intro (hq40) ?_
  rw [qc]
  refine call_eq (c_M_comesAt g d I D _ _ _ hpp) ?_
  exact And.intro rfl (And.intro rfl rfl)
theorem c_M_meet (a b c e : Int32) : Con g SHc d 243 [.int a, .int b, .int c, .int e] I D (EqP (some (.int (bI (decide (a < e) && decide (c < b))))) I D) := by
  refine Con.mk (LV := v_M_meet) k_M_meet (Nat.le_of_ble_eq_true rfl) (fun K hK => ?_)
  refine hK (0, 16, o_M_meet_0) (List.mem_of_getElem? (i := 0) rfl) _ _ _ _ ?_
  refine And.intro (fun c1 => ?_) (fun c1 => ?_)
  · rw [decide_eq_false (i32_nlt.mpr c1)]
    exact And.intro (by decide) (And.intro rfl (And.intro rfl rfl))
  rw [decide_eq_true (i32_nle.mp c1)]
  refine And.intro (fun c2 => ?_) (fun c2 => ?_)
  · rw [decide_eq_false (i32_nlt.mpr c2)]
    exact And.intro (by decide) (And.intro rfl (And.intro rfl rfl))
  · rw [decide_eq_true (i32_nle.mp c2)]
    exact And.intro (by decide) (And.intro rfl (And.intro rfl rfl))
set_option maxHeartbeats 2000000 in
theorem c_M_isWith (r q r' li lj : Nat) (hr : r < 6) (hq : q < 40) (hr' : r' < 6) (hrt : I 124 q = nI r') (hpp : ¬ I 129 q = 0) (hli : li ≤ 4) (hlie : I 117 r = nI li) (hlj : lj ≤ 4) (hlje : I 117 r' = nI lj) (hsh : ∀ i, i < li → ∃ q, q < 16 ∧ I 118 (4 * r + i) = nI q ∧ 0 ≤ (I 92 q).toInt) : Con g SHc (d + 2) 241 [.ref 12, .int (nI r), .int (nI q)] I D (EqP (some (.int (bI (mtA (I 118) (I 92) (I 130) (atM I q r') r r' li lj)))) I D) := by
  refine Con.mk (LV := v_M_isWith2) k_M_isWith2 (Nat.le_of_ble_eq_true rfl) (fun K hK => ?_)
  have hr6 : inn (nI r) 6 := inn_nI hr (by decide)
  have hr6' : inn (nI r') 6 := inn_nI hr' (by decide)
  have hq40 : inn (nI q) 40 := inn_nI hq (by decide)
  have rc : (nI r).toNatClampNeg = r := nI_clamp (by omega)
  have rc' : (nI r').toNatClampNeg = r' := nI_clamp (by omega)
  have qc : (nI q).toNatClampNeg = q := nI_clamp (by omega)
  obtain ⟨f, hf⟩ : ∃ f : Nat → Nat → Bool, f = fun i j => mtB (I 118) (I 92) (I 130) (atM I q r') r r' li lj i j := ⟨_, rfl⟩
  have eV : mtA (I 118) (I 92) (I 130) (atM I q r') r r' li lj = anyB (fun i => anyB (f i) lj) li := by rw [hf]; rfl
  rw [eV] at hK
  have k295 : K 295 [(4, .int (bI (anyB (fun i => anyB (f i) lj) li)))] [] I D := by
    refine hK (295, 298, o_M_isWith2_7) (List.mem_of_getElem? (i := 7) rfl) _ _ _ _ ?_
    exact And.intro (bI_01 _) (And.intro rfl (And.intro rfl rfl))
  have inner : ∀ i, i < li → K 13 [(0, .ref 12), (1, .int (nI r)), (2, .int (nI q)), (3, .int (nI r')), (4, .int (bI (anyB (fun i => anyB (f i) lj) i || anyB (f i) lj))), (5, .int (nI i + 1))] [] I D → ∀ k j, j + k = lj → K 40 [(0, .ref 12), (1, .int (nI r)), (2, .int (nI q)), (3, .int (nI r')), (4, .int (bI (anyB (fun i => anyB (f i) lj) i || anyB (f i) j))), (5, .int (nI i)), (6, .int (I 118 (4 * r + i))), (7, .int (nI j))] [] I D := by
    intro i hi cont k
    have ic : (nI i).toNatClampNeg = i := nI_clamp (by omega)
    have ic1 : (nI i + 1).toNatClampNeg = i + 1 := by rw [nI_1]; exact nI_clamp (by omega)
    induction k with
    | zero =>
      intro j hj
      have hj : j = lj := by omega
      subst hj
      have k289 : K 289 [(0, .ref 12), (1, .int (nI r)), (2, .int (nI q)), (3, .int (nI r')), (4, .int (bI (anyB (fun i => anyB (f i) j) i || anyB (f i) j))), (5, .int (nI i))] [] I D := by
        refine hK (289, 295, o_M_isWith2_6) (List.mem_of_getElem? (i := 6) rfl) _ _ _ _ ?_
        exact cont
      refine hK (40, 140, o_M_isWith2_2) (List.mem_of_getElem? (i := 2) rfl) _ _ _ _ ?_
      refine And.intro (hr6') ?_
      rw [rc', hlje]
      refine And.intro (fun c => ?_) (fun c => ?_)
      · exact k289
      · exact absurd (nI_le (Nat.le_refl _) (by omega)) c
    | succ k ih =>
      intro j hj
      obtain ⟨u, hu, hue, hlk⟩ := hsh i hi
      have uc : (nI u).toNatClampNeg = u := nI_clamp (by omega)
      have jc : (nI j).toNatClampNeg = j := nI_clamp (by omega)
      have go := ih (j + 1) (by omega)
      obtain ⟨A, hA⟩ : ∃ A, A = (anyB (fun i => anyB (f i) lj) i || anyB (f i) j) := ⟨_, rfl⟩
      have eA : (anyB (fun i => anyB (f i) lj) i || anyB (f i) (j + 1)) = (A || f i j) := by
        rw [hA, show anyB (f i) (j + 1) = (anyB (f i) j || f i j) from rfl, Bool.or_assoc]
      rw [eA, nI_succ] at go
      rw [← hA]
      obtain ⟨Lb, hLb⟩ : ∃ Lb, Lb = lkB (I 118 (4 * r + i)) (I 118 (4 * r' + j)) (I 92 (I 118 (4 * r + i)).toNatClampNeg) (I 130 i) (atM I q r' j) := ⟨_, rfl⟩
      have ef : f i j = (Lb || (decide (i + 1 < li) && decide (j + 1 < lj) && rcB (I 118 (4 * r + i)) (I 118 (4 * r + i + 1)) (I 118 (4 * r' + j)) (I 118 (4 * r' + j + 1)) (I 130 i) (I 130 (i + 1)) (atM I q r' j) (atM I q r' (j + 1)))) := by rw [hf, hLb]; rfl
      have e1 : 4 * nI r + nI i = nI (4 * r + i) := nI_lin' 4 r i
      have e2 : 4 * nI r' + nI j = nI (4 * r' + j) := nI_lin' 4 r' j
      have k283 : ∀ b, b = (A || f i j) → K 283 [(0, .ref 12), (1, .int (nI r)), (2, .int (nI q)), (3, .int (nI r')), (4, .int (bI b)), (5, .int (nI i)), (6, .int (I 118 (4 * r + i))), (7, .int (nI j))] [] I D := by
        intro b hb
        rw [hb]
        refine hK (283, 289, o_M_isWith2_5) (List.mem_of_getElem? (i := 5) rfl) _ _ _ _ ?_
        exact go
      have k231 : i + 1 < li → j + 1 < lj → ∀ y, y = smB (I 118 (4 * r + i)) (I 118 (4 * r + i + 1)) (I 118 (4 * r' + j)) (I 118 (4 * r' + j + 1)) → K 231 [(0, .ref 12), (1, .int (nI r)), (2, .int (nI q)), (3, .int (nI r')), (4, .int (bI (A || Lb))), (5, .int (nI i)), (6, .int (I 118 (4 * r + i))), (7, .int (nI j)), (9, .int (atM I q r' j))] [.int (bI y)] I D := by
        intro hi1 hj1 y hy
        rw [decide_eq_true hi1, decide_eq_true hj1, Bool.true_and, Bool.true_and] at ef
        unfold rcB at ef
        rw [← hy] at ef
        have eb : (A || f i j) = ((A || Lb) || (y && (decide (I 130 i < atM I q r' (j + 1)) && decide (atM I q r' j < I 130 (i + 1))))) := by rw [ef, Bool.or_assoc]
        refine hK (231, 283, o_M_isWith2_4) (List.mem_of_getElem? (i := 4) rfl) _ _ _ _ ?_
        refine And.intro (fun b1 => ?_) (fun b1 => ?_)
        · exact k283 true (by rw [eb, bI_n0.mp b1, Bool.true_or])
        refine And.intro (fun b2 => ?_) (fun b2 => ?_)
        · exact k283 false (by rw [eb, bI_0.mp b1, bI_0.mp b2]; rfl)
        refine And.intro (inn_nI (by omega) (by decide)) ?_
        refine And.intro (by rw [nI_1]; exact inn_nI (by omega) (by decide)) ?_
        have hC : Con g SHc (d + 1) 242 [.ref 12, .int (nI q), .int (nI j + 1)] I D (EqP (some (.int (atM I q r' (j + 1)))) I D) := by
          rw [nI_1]
          exact c_M_comesTo g d I D q (j + 1) r' hq (by omega) hr' hrt hpp
        refine call_eq (hC) ?_
        rw [ic, ic1]
        refine call_eq (c_M_meet g (d + 1) I D _ _ _ _) ?_
        refine And.intro (fun b3 => ?_) (fun b3 => ?_)
        · exact k283 false (by rw [eb, bI_0.mp b1, bI_n0.mp b2, bI_0.mp b3]; rfl)
        · exact k283 true (by rw [eb, bI_n0.mp b2, bI_n0.mp b3]; simp)
      have k140 : K 140 [(0, .ref 12), (1, .int (nI r)), (2, .int (nI q)), (3, .int (nI r')), (5, .int (nI i)), (6, .int (I 118 (4 * r + i))), (7, .int (nI j)), (8, .int (I 118 (4 * r' + j))), (9, .int (atM I q r' j))] [.int (bI (A || Lb))] I D := by
        refine hK (140, 231, o_M_isWith2_3) (List.mem_of_getElem? (i := 3) rfl) _ _ _ _ ?_
        refine And.intro (hr6) ?_
        rw [rc, hlie]
        refine And.intro (fun b1 => ?_) (fun b1 => ?_)
        · have b1 : nI li ≤ nI i + 1 := b1
          rw [nI_1, nI_leI (by omega) (by omega)] at b1
          exact k283 _ (by rw [ef, decide_eq_false (show ¬ i + 1 < li by omega), Bool.false_and, Bool.false_and, Bool.or_false])
        have b1 : ¬ nI li ≤ nI i + 1 := b1
        rw [nI_1, nI_leI (by omega) (by omega)] at b1
        refine And.intro (hr6') ?_
        rw [rc', hlje]
        refine And.intro (fun b2 => ?_) (fun b2 => ?_)
        · have b2 : nI lj ≤ nI j + 1 := b2
          rw [nI_1, nI_leI (by omega) (by omega)] at b2
          exact k283 _ (by rw [ef, decide_eq_false (show ¬ j + 1 < lj by omega), Bool.and_false, Bool.false_and, Bool.or_false])
        have b2 : ¬ nI lj ≤ nI j + 1 := b2
        rw [nI_1, nI_leI (by omega) (by omega)] at b2
        have k231 := k231 (by omega) (by omega)
        refine And.intro (by rw [e1, nI_1]; exact inn_nI (by omega) (by decide)) ?_
        refine And.intro (by rw [e2, nI_1]; exact inn_nI (by omega) (by decide)) ?_
        rw [e1, e2, nI_1, nI_1, nI_clamp (show 4 * r + i + 1 < 2 ^ 31 by omega), nI_clamp (show 4 * r' + j + 1 < 2 ^ 31 by omega)]
        refine And.intro (fun b3 => ?_) (fun b3 => ?_)
        · refine And.intro (fun b4 => ?_) (fun b4 => ?_)
          · exact k231 false (by unfold smB; rw [decide_eq_false b3, decide_eq_false b4]; rfl)
          refine And.intro (fun b5 => ?_) (fun b5 => ?_)
          · exact k231 false (by unfold smB; rw [decide_eq_false b3, decide_eq_false b5]; simp)
          · exact k231 true (by unfold smB; rw [decide_eq_true b4, decide_eq_true b5]; simp)
        refine And.intro (fun b6 => ?_) (fun b6 => ?_)
        · exact k231 true (by unfold smB; rw [decide_eq_true b3, decide_eq_true b6]; simp)
        refine And.intro (fun b4 => ?_) (fun b4 => ?_)
        · exact k231 false (by unfold smB; rw [decide_eq_false b6, decide_eq_false b4]; simp)
        refine And.intro (fun b5 => ?_) (fun b5 => ?_)
        · exact k231 false (by unfold smB; rw [decide_eq_false b6, decide_eq_false b5]; simp)
        · exact k231 true (by unfold smB; rw [decide_eq_true b4, decide_eq_true b5]; simp)
      refine hK (40, 140, o_M_isWith2_2) (List.mem_of_getElem? (i := 2) rfl) _ _ _ _ ?_
      refine And.intro (hr6') ?_
      rw [rc', hlje]
      refine And.intro (fun c => ?_) (fun c => ?_)
      · exact absurd c (nI_ge (by omega) (by omega))
      refine And.intro (by rw [e2]; exact inn_nI (by omega) (by decide)) ?_
      rw [e2, nI_clamp (show 4 * r' + j < 2 ^ 31 by omega)]
      refine call_eq (c_M_comesTo g d I D q j r' hq (by omega) hr' hrt hpp) ?_
      have k140' : ∀ b, b = (A || Lb) → K 140 [(0, .ref 12), (1, .int (nI r)), (2, .int (nI q)), (3, .int (nI r')), (5, .int (nI i)), (6, .int (I 118 (4 * r + i))), (7, .int (nI j)), (8, .int (I 118 (4 * r' + j))), (9, .int (atM I q r' j))] [.int (bI b)] I D := by
        intro b hb
        rw [hb]
        exact k140
      unfold lkB at hLb
      rw [hue, uc] at hLb
      refine And.intro (fun b1 => ?_) (fun b1 => ?_)
      · exact k140' true (by rw [bI_n0.mp b1, Bool.true_or])
      have hA0 := bI_0.mp b1
      refine And.intro (fun b2 => ?_) (fun b2 => ?_)
      · have b2 : ¬ I 118 (4 * r + i) = I 118 (4 * r' + j) := b2
        rw [hue] at b2
        exact k140' false (by rw [hA0, hLb, decide_eq_false b2]; simp)
      have b2 : I 118 (4 * r + i) = I 118 (4 * r' + j) := b2
      rw [hue] at b2
      have hu16 : inn (I 118 (4 * r + i)) 16 := by rw [hue]; exact inn_nI hu (by decide)
      have uc2 : (I 118 (4 * r + i)).toNatClampNeg = u := by rw [hue]; exact uc
      rw [decide_eq_true b2] at hLb
      refine And.intro (hu16) ?_
      rw [uc2]
      refine And.intro (fun b3 => ?_) (fun b3 => ?_)
      · have b3 : I 92 u = 0 := by
          rw [i32_le, show ((0 : Int32)).toInt = 0 by decide] at b3
          exact Int32.toInt_inj.mp (by rw [show ((0 : Int32)).toInt = 0 by decide]; omega)
        exact k140' false (by rw [hA0, hLb, decide_eq_true b3]; simp)
      have b3 : ¬ I 92 u = 0 := fun z => b3 (by rw [z]; decide)
      rw [decide_eq_false b3] at hLb
      refine And.intro (inn_nI (by omega) (by decide)) ?_
      refine And.intro (inn_nI (by omega) (by decide)) ?_
      refine And.intro (hu16) ?_
      refine And.intro (hu16) ?_
      rw [ic, uc2]
      refine call_eq (c_M_meet g (d + 1) I D _ _ _ _) ?_
      refine And.intro (fun b4 => ?_) (fun b4 => ?_)
      · exact k140' false (by rw [hA0, hLb, bI_0.mp b4]; rfl)
      · exact k140' true (by rw [hA0, hLb, bI_n0.mp b4]; rfl)
  have outer : ∀ k i, i + k = li → K 13 [(0, .ref 12), (1, .int (nI r)), (2, .int (nI q)), (3, .int (nI r')), (4, .int (bI (anyB (fun i => anyB (f i) lj) i))), (5, .int (nI i))] [] I D := by
    intro k
    induction k with
    | zero =>
      intro i hi
      have hi : i = li := by omega
      subst hi
      refine hK (13, 40, o_M_isWith2_1) (List.mem_of_getElem? (i := 1) rfl) _ _ _ _ ?_
      refine And.intro (hr6) ?_
      rw [rc, hlie]
      refine And.intro (fun c => ?_) (fun c => ?_)
      · exact k295
      · exact absurd (nI_le (Nat.le_refl _) (by omega)) c
    | succ k ih =>
      intro i hi
      have go := ih (i + 1) (by omega)
      rw [nI_succ, show anyB (fun i => anyB (f i) lj) (i + 1) = (anyB (fun i => anyB (f i) lj) i || anyB (f i) lj) from rfl] at go
      have e1 : 4 * nI r + nI i = nI (4 * r + i) := nI_lin' 4 r i
      refine hK (13, 40, o_M_isWith2_1) (List.mem_of_getElem? (i := 1) rfl) _ _ _ _ ?_
      refine And.intro (hr6) ?_
      rw [rc, hlie]
      refine And.intro (fun c => ?_) (fun c => ?_)
      · exact absurd c (nI_ge (by omega) (by omega))
      refine And.intro (by rw [e1]; exact inn_nI (by omega) (by decide)) ?_
      rw [e1, nI_clamp (show 4 * r + i < 2 ^ 31 by omega)]
      have h := inner i (by omega) go lj 0 (by omega)
      rw [show anyB (f i) 0 = false from rfl, Bool.or_false] at h
      exact h
  refine hK (0, 13, o_M_isWith2_0) (List.mem_of_getElem? (i := 0) rfl) _ _ _ _ ?_
  refine And.intro (hq40) ?_
  rw [qc, hrt]
  exact outer li 0 (by omega)
def maM (I : MI) (r : Nat) (n : Nat) : Bool := anyB (fun p => !decide (I 128 p = -1) && mtA (I 118) (I 92) (I 130) (atM I p (I 124 p).toNatClampNeg) r (I 124 p).toNatClampNeg (I 117 r).toNatClampNeg (I 117 (I 124 p).toNatClampNeg).toNatClampNeg) n
def LKM (I : MI) : Prop := ∀ q, q < 16 → 0 ≤ (I 92 q).toInt
theorem c_M_isFree (hR : RM I) (hL : LKM I) (r n : Nat) (hr : r < 6) (hn : n ≤ 40) (hN : I 12 78 = nI n) (hrt : ∀ p, p < n → ∃ r', r' < 6 ∧ I 124 p = nI r') (hpp : ∀ p, p < n → ¬ I 128 p = -1 → ¬ I 129 p = 0) : Con g SHc (d + 3) 240 [.ref 12, .int (nI r)] I D (EqP (some (.int (bI (!maM I r n)))) I D) := by
  refine Con.mk (LV := v_M_isFree) k_M_isFree (Nat.le_of_ble_eq_true rfl) (fun K hK => ?_)
  obtain ⟨li, hli, hlie, hlg⟩ := hR r hr
  obtain ⟨f, hf⟩ : ∃ f : Nat → Bool, f = fun p => !decide (I 128 p = -1) && mtA (I 118) (I 92) (I 130) (atM I p (I 124 p).toNatClampNeg) r (I 124 p).toNatClampNeg (I 117 r).toNatClampNeg (I 117 (I 124 p).toNatClampNeg).toNatClampNeg := ⟨_, rfl⟩
  have eV : maM I r n = anyB f n := by rw [hf]; rfl
  rw [eV] at hK
  have loop : ∀ k p, p + k = n → K 4 [(0, .ref 12), (1, .int (nI r)), (2, .int (bI (!anyB f p))), (3, .int (nI p))] [] I D := by
    intro k
    induction k with
    | zero =>
      intro p hp
      have hp : p = n := by omega
      subst hp
      refine hK (4, 49, o_M_isFree_1) (List.mem_of_getElem? (i := 1) rfl) _ _ _ _ ?_
      refine And.intro (fun c => ?_) (fun c => ?_)
      · exact And.intro (bI_01 _) (And.intro rfl (And.intro rfl rfl))
      · exact absurd (by rw [hN]; exact nI_le (Nat.le_refl _) (by omega)) c
    | succ k ih =>
      intro p hp
      have hpc : (nI p).toNatClampNeg = p := nI_clamp (by omega)
      obtain ⟨r', hr', hre⟩ := hrt p (by omega)
      obtain ⟨lj, hlj, hlje, -⟩ := hR r' hr'
      have ef : f p = (!decide (I 128 p = -1) && mtA (I 118) (I 92) (I 130) (atM I p r') r r' li lj) := by
        rw [hf]
        show (!decide (I 128 p = -1) && mtA (I 118) (I 92) (I 130) (atM I p (I 124 p).toNatClampNeg) r (I 124 p).toNatClampNeg (I 117 r).toNatClampNeg (I 117 (I 124 p).toNatClampNeg).toNatClampNeg) = _
        rw [hre, nI_clamp (show r' < 2 ^ 31 by omega), hlie, hlje, nI_clamp (show li < 2 ^ 31 by omega), nI_clamp (show lj < 2 ^ 31 by omega)]
      have go : ∀ b, b = !(anyB f p || f p) → K 4 [(0, .ref 12), (1, .int (nI r)), (2, .int (bI b)), (3, .int (nI p + 1))] [] I D := by
        intro b hb
        have g := ih (p + 1) (by omega)
        rw [nI_succ, show anyB f (p + 1) = (anyB f p || f p) from rfl, ← hb] at g
        exact g
      refine hK (4, 49, o_M_isFree_1) (List.mem_of_getElem? (i := 1) rfl) _ _ _ _ ?_
      refine And.intro (fun c => ?_) (fun c => ?_)
      · rw [hN] at c
        exact absurd c (nI_ge (by omega) (by omega))
      refine And.intro (fun c0 => ?_) (fun c0 => ?_)
      · have h0 := bI_0.mp c0
        exact go false (by rw [show anyB f p = true by simpa using h0]; rfl)
      have h0 := bI_n0.mp c0
      have h0 : anyB f p = false := by simpa using h0
      refine And.intro (inn_nI (by omega) (by decide)) ?_
      rw [hpc]
      refine And.intro (fun c1 => ?_) (fun c1 => ?_)
      · exact go true (by rw [h0, ef, decide_eq_true c1]; rfl)
      have hpp' := hpp p (by omega) c1
      rw [decide_eq_false c1, Bool.not_false, Bool.true_and] at ef
      refine call_eq (c_M_isWith g d I D r p r' li lj hr (by omega) hr' hre hpp' hli hlie hlj hlje (fun i hi => by obtain ⟨q, s, a, z1, z2, -⟩ := hlg i hi; exact ⟨q, z1, z2, hL q z1⟩)) ?_
      rw [← ef]
      refine And.intro (fun c2 => ?_) (fun c2 => ?_)
      · exact go false (by rw [h0, bI_n0.mp c2]; rfl)
      · exact go true (by rw [h0, bI_0.mp c2]; rfl)
  refine hK (0, 4, o_M_isFree_0) (List.mem_of_getElem? (i := 0) rfl) _ _ _ _ ?_
  exact loop n 0 (by omega)
end S75
