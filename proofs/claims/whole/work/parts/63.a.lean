def o_M_ship2_0 : List Op := [(0, .iload_n 1, 1, 0, .null), (1, .iconst 0, 0, 0, .int 0), (2, .iconst 4, 0, 0, .int 4), (3, .invokestatic 216, 150, 3, .ref 0), (6, .ifCond .eq 62, 68, 0, .null), (9, .iload_n 2, 2, 0, .null), (10, .iconst 0, 0, 0, .int 0), (11, .sipush 3000, 0, 0, .int 3000), (14, .invokestatic 216, 150, 3, .ref 0), (17, .ifCond .eq 51, 68, 0, .null), (20, .iload_n 3, 3, 0, .null), (21, .iconst 0, 0, 0, .int 0), (22, .sipush 3000, 0, 0, .int 3000), (25, .invokestatic 216, 150, 3, .ref 0), (28, .ifCond .eq 40, 68, 0, .null), (31, .iload 4, 4, 0, .null), (33, .sipush (-1000), 0, 0, .int (-1000)), (36, .sipush 1000, 0, 0, .int 1000), (39, .invokestatic 216, 150, 3, .ref 0), (42, .ifCond .eq 26, 68, 0, .null), (45, .iload_n 1, 1, 0, .null), (46, .iconst 4, 0, 0, .int 4), (47, .if_icmp .ne 24, 71, 0, .null), (50, .aload_n 0, 0, 0, .null), (51, .iload 5, 5, 0, .null), (53, .invokevirtual 384, 200, 1, .ref 12), (56, .ifCond .eq 12, 68, 0, .null), (59, .aload_n 0, 0, 0, .null), (60, .iload 6, 6, 0, .null), (62, .invokevirtual 384, 200, 1, .ref 12), (65, .ifCond .ne 6, 71, 0, .null), (68, .bipush (-2), 0, 0, .int (-2)), (70, .ireturn, 0, 0, .null), (71, .iconst 0, 0, 0, .int 0), (72, .istore 7, 7, 0, .null), (74, .iload_n 1, 1, 0, .null), (75, .iconst 4, 0, 0, .int 4), (76, .if_icmp .ne 59, 135, 0, .null), (79, .iload 5, 5, 0, .null), (81, .iconst (-1), 0, 0, .int (-1)), (82, .if_icmp .ne 7, 89, 0, .null), (85, .iconst 0, 0, 0, .int 0), (86, .goto 10, 96, 0, .null), (89, .aload_n 0, 0, 0, .null), (90, .getfield 136, 12, 55, .null), (93, .iload 5, 5, 0, .null), (95, .iaload, 0, 0, .null), (96, .istore 8, 8, 0, .null), (98, .iload 6, 6, 0, .null), (100, .iconst (-1), 0, 0, .int (-1)), (101, .if_icmp .ne 7, 108, 0, .null), (104, .iconst 0, 0, 0, .int 0), (105, .goto 10, 115, 0, .null), (108, .aload_n 0, 0, 0, .null), (109, .getfield 136, 12, 55, .null), (112, .iload 6, 6, 0, .null), (114, .iaload, 0, 0, .null), (115, .istore 9, 9, 0, .null), (117, .iconst 1, 0, 0, .int 1), (118, .iload 8, 8, 0, .null), (120, .iload 9, 9, 0, .null), (122, .if_icmp .le 8, 130, 0, .null), (125, .iload 8, 8, 0, .null), (127, .goto 5, 132, 0, .null), (130, .iload 9, 9, 0, .null), (132, .iadd, 0, 0, .null), (133, .istore 7, 7, 0, .null)]
def o_M_ship2_1 : List Op := [(135, .iload 7, 7, 0, .null), (137, .iconst 4, 0, 0, .int 4), (138, .if_icmp .le 6, 144, 0, .null), (141, .bipush (-3), 0, 0, .int (-3)), (143, .ireturn, 0, 0, .null), (144, .aload_n 0, 0, 0, .null), (145, .getfield 378, 12, 49, .null), (148, .bipush 40, 0, 0, .int 40), (150, .if_icmp .ne 6, 156, 0, .null), (153, .bipush (-4), 0, 0, .int (-4)), (155, .ireturn, 0, 0, .null), (156, .aload_n 0, 0, 0, .null), (157, .getfield 121, 12, 50, .null), (160, .aload_n 0, 0, 0, .null), (161, .getfield 378, 12, 49, .null), (164, .iload_n 1, 1, 0, .null), (165, .iastore, 0, 0, .null), (166, .aload_n 0, 0, 0, .null), (167, .getfield 124, 12, 51, .null), (170, .aload_n 0, 0, 0, .null), (171, .getfield 378, 12, 49, .null), (174, .iload_n 2, 2, 0, .null), (175, .iastore, 0, 0, .null), (176, .aload_n 0, 0, 0, .null), (177, .getfield 127, 12, 52, .null), (180, .aload_n 0, 0, 0, .null), (181, .getfield 378, 12, 49, .null), (184, .iload_n 3, 3, 0, .null), (185, .iastore, 0, 0, .null), (186, .aload_n 0, 0, 0, .null), (187, .getfield 130, 12, 53, .null), (190, .aload_n 0, 0, 0, .null), (191, .getfield 378, 12, 49, .null), (194, .iload 4, 4, 0, .null), (196, .iastore, 0, 0, .null), (197, .aload_n 0, 0, 0, .null), (198, .getfield 133, 12, 54, .null), (201, .iconst 2, 0, 0, .int 2), (202, .aload_n 0, 0, 0, .null), (203, .getfield 378, 12, 49, .null), (206, .imul, 0, 0, .null), (207, .iload_n 1, 1, 0, .null), (208, .iconst 4, 0, 0, .int 4), (209, .if_icmp .ne 8, 217, 0, .null), (212, .iload 5, 5, 0, .null), (214, .goto 4, 218, 0, .null), (217, .iconst (-1), 0, 0, .int (-1)), (218, .iastore, 0, 0, .null), (219, .aload_n 0, 0, 0, .null), (220, .getfield 133, 12, 54, .null), (223, .iconst 2, 0, 0, .int 2), (224, .aload_n 0, 0, 0, .null), (225, .getfield 378, 12, 49, .null), (228, .imul, 0, 0, .null), (229, .iconst 1, 0, 0, .int 1), (230, .iadd, 0, 0, .null), (231, .iload_n 1, 1, 0, .null), (232, .iconst 4, 0, 0, .int 4), (233, .if_icmp .ne 8, 241, 0, .null), (236, .iload 6, 6, 0, .null), (238, .goto 4, 242, 0, .null), (241, .iconst (-1), 0, 0, .int (-1)), (242, .iastore, 0, 0, .null), (243, .aload_n 0, 0, 0, .null), (244, .getfield 136, 12, 55, .null), (247, .aload_n 0, 0, 0, .null), (248, .getfield 378, 12, 49, .null), (251, .iload 7, 7, 0, .null), (253, .iastore, 0, 0, .null), (254, .aload_n 0, 0, 0, .null), (255, .dup, 0, 0, .null), (256, .getfield 378, 12, 49, .null), (259, .iconst 1, 0, 0, .int 1), (260, .iadd, 0, 0, .null), (261, .putfield 378, 12, 49, .null), (264, .aload_n 0, 0, 0, .null), (265, .getfield 378, 12, 49, .null), (268, .iconst 1, 0, 0, .int 1), (269, .isub, 0, 0, .null), (270, .ireturn, 0, 0, .null)]
def v_M_ship2 : List (Nat × List Nat) := [(0, [0, 1, 2, 3, 4, 5, 6]), (135, [0, 1, 2, 3, 4, 5, 6, 7])]
def s_M_ship2 : List (Nat × Nat × List Op) := [(0, 135, o_M_ship2_0), (135, 271, o_M_ship2_1)]
set_option maxRecDepth 100000 in
theorem k_M_ship2 : MOk P_M s_M_ship2 199 10 := ⟨P_M_ok, _, rfl, rfl, rfl, by decide +kernel⟩
/-! ship, leg -/
def dpS (ns : Nat → Int32) (p : Int32) : Int32 := if p = -1 then 0 else ns p.toNatClampNeg
def mxI (a b : Int32) : Int32 := if a < b then b else a
def deepS (ns : Nat → Int32) (k p q : Int32) : Int32 := if k = 4 then 1 + mxI (dpS ns p) (dpS ns q) else 0
theorem mxI_le {a b : Int32} : (if b < a then a else b) = mxI a b := by
  unfold mxI
  by_cases h : a < b
  · rw [if_pos h, if_neg (fun z => Int32.lt_irrefl (Int32.lt_trans h z))]
  · by_cases h2 : b < a
    · rw [if_pos h2, if_neg h]
    · rw [if_neg h2, if_neg h]
      exact Int32.le_antisymm (i32_nlt.mp h) (i32_nlt.mp h2)
def shOkB (m : Nat) (k dr pc x p q : Int32) : Bool := wi k 0 4 && wi dr 0 3000 && wi pc 0 3000 && wi x (-1000) 1000 && (!decide (k = 4) || (shN p m && shN q m))
section S63
variable (g : Gp) (d : Nat) (I : MI) (D : MD)
def shpX (I : MI) (m : Nat) (k dr pc x p q dp : Int32) : MI := up2 (up2 (up2 (up2 (up2 (up2 (up2 (up2 I 42 m k) 43 m dr) 44 m pc) 45 m x) 46 m p) 47 m q) 48 m dp) 6 9 (nI (m + 1))
def shpM (I : MI) (m : Nat) (k dr pc x p q dp : Int32) : MI := up2 (up2 (up2 (up2 (up2 (up2 (up2 (up2 I 103 m k) 104 m dr) 105 m pc) 106 m x) 107 (2 * m) p) 107 (2 * m + 1) q) 108 m dp) 12 49 (nI (m + 1))
theorem c_X_deepOf (m : Nat) (hm : m ≤ 40) (p : Int32) (hp : shN p m = true) : Con g SHc d 74 [.ref 6, .int p] I D (EqP (some (.int (dpS (I 48) p))) I D) := by
  refine Con.mk (LV := v_Ships_deepOf) k_Ships_deepOf (Nat.le_of_ble_eq_true rfl) (fun K hK => ?_)
  refine hK (0, 16, o_Ships_deepOf_0) (List.mem_of_getElem? (i := 0) rfl) _ _ _ _ ?_
  unfold dpS
  rcases shN_e (by omega) hp with rfl | ⟨j, hj, rfl⟩
  · refine And.intro (fun z => absurd rfl z) (fun _ => ?_)
    exact And.intro rfl (And.intro rfl rfl)
  · refine And.intro (fun _ => ?_) (fun z => absurd z (nI_neg1 (by omega)))
    refine And.intro (inn_nI (by omega) (by decide)) ?_
    rw [if_neg (nI_neg1 (by omega))]
    exact And.intro rfl (And.intro rfl rfl)
theorem c_X_shadd (m : Nat) (hm : m ≤ 40) (hS : I 6 9 = nI m) (k dr pc x p q : Int32) (hp : k = 4 → shN p m = true ∧ shN q m = true) : Con g SHc (d + 1) 73 [.ref 6, .int k, .int dr, .int pc, .int x, .int p, .int q] I D (EqP (some (.int (sel3 true (decide (4 < deepS (I 48) k p q)) (!decide (m < 40)) (-2) (-3) (-4) (nI m)))) (sel3 true (decide (4 < deepS (I 48) k p q)) (!decide (m < 40)) I I I (shpX I m k dr pc x p q (deepS (I 48) k p q))) D) := by
  refine Con.mk (LV := v_Ships_add) k_Ships_add (Nat.le_of_ble_eq_true rfl) (fun K hK => ?_)
  refine hK (0, 140, o_Ships_add_0) (List.mem_of_getElem? (i := 0) rfl) _ _ _ _ ?_
  have tail : ∀ dp, dp = deepS (I 48) k p q → wp SHc none (retP (EqP (some (.int (sel3 true (decide (4 < deepS (I 48) k p q)) (!decide (m < 40)) (-2) (-3) (-4) (nI m)))) (sel3 true (decide (4 < deepS (I 48) k p q)) (!decide (m < 40)) I I I (shpX I m k dr pc x p q (deepS (I 48) k p q))) D)) (CaD g SHc (d + 1)) v_Ships_add K 140 o_Ships_add_0 (some 26) (lv_args 0 [.ref 6, .int k, .int dr, .int pc, .int x, .int p, .int q]) [.int dp] I D := by
    intro dp hdp
    rw [← hdp]
    refine And.intro (fun c1 => ?_) (fun c1 => ?_)
    · rw [decide_eq_false (i32_nlt.mpr c1)]
      refine And.intro (fun c2 => ?_) (fun c2 => ?_)
      · rw [hS] at c2
        have h40 : m < 40 := by
          rcases Nat.lt_or_ge m 40 with h | h
          · exact h
          · exact absurd (show nI m < nI 40 from c2) (nI_nlt h (by omega))
        rw [decide_eq_true h40]
        have hin : inn (I 6 9) 40 := by rw [hS]; exact inn_nI h40 (by decide)
        refine And.intro (hin) ?_
        refine And.intro (hin) ?_
        refine And.intro (hin) ?_
        refine And.intro (hin) ?_
        refine And.intro (hin) ?_
        refine And.intro (hin) ?_
        refine And.intro (hin) ?_
        refine And.intro ?_ (And.intro ?_ rfl)
        · show some (Value.int (I 6 9 + 1 - 1)) = some (Value.int (nI m))
          rw [hS, nI_1, nI_pred]
        · show up2 (up2 (up2 (up2 (up2 (up2 (up2 (up2 I 42 (I 6 9).toNatClampNeg k) 43 (I 6 9).toNatClampNeg dr) 44 (I 6 9).toNatClampNeg pc) 45 (I 6 9).toNatClampNeg x) 46 (I 6 9).toNatClampNeg p) 47 (I 6 9).toNatClampNeg q) 48 (I 6 9).toNatClampNeg dp) 6 9 (I 6 9 + 1) = shpX I m k dr pc x p q dp
          rw [hS, nI_1, nI_clamp (show m < 2 ^ 31 by omega)]
          rfl
      · rw [hS] at c2
        have h40 : ¬ m < 40 := fun z => c2 (show nI m < nI 40 from nI_lt z (by decide))
        rw [decide_eq_false h40]
        exact And.intro rfl (And.intro rfl rfl)
    · rw [decide_eq_true (i32_nle.mp c1)]
      exact And.intro rfl (And.intro rfl rfl)
  refine And.intro (fun c0 => ?_) (fun c0 => ?_)
  · refine tail 0 ?_
    unfold deepS
    rw [if_neg c0]
  · obtain ⟨h1, h2⟩ := hp c0
    refine call_eq (c_X_deepOf g d I D m hm p h1) ?_
    refine call_eq (c_X_deepOf g d I D m hm q h2) ?_
    refine call_eq (c_X_max g d I D _ _) ?_
    refine tail _ ?_
    unfold deepS
    rw [if_pos c0]
    rfl
theorem c_X_ship (m : Nat) (hm : m ≤ 40) (hS : I 6 9 = nI m) (k dr pc x p q : Int32) : Con g SHc (d + 2) 72 [.ref 0, .int k, .int dr, .int pc, .int x, .int p, .int q] I D (EqP (some (.int (sel3 (shOkB m k dr pc x p q) (decide (4 < deepS (I 48) k p q)) (!decide (m < 40)) (-2) (-3) (-4) (nI m)))) (sel3 (shOkB m k dr pc x p q) (decide (4 < deepS (I 48) k p q)) (!decide (m < 40)) I I I (shpX I m k dr pc x (if k = 4 then p else -1) (if k = 4 then q else -1) (deepS (I 48) k p q))) D) := by
  refine Con.mk (LV := v_X_ship) k_X_ship (Nat.le_of_ble_eq_true rfl) (fun K hK => ?_)
  refine hK (0, 106, o_X_ship_0) (List.mem_of_getElem? (i := 0) rfl) _ _ _ _ ?_
  have hor : ∀ v, (decide (-1 ≤ v) && decide (v < I 6 9)) = shN v m := fun v => by rw [hS]; exact shN_or (by omega)
  unfold shOkB
  refine call_eq (c_X_isWithin g (d + 1) I D k 0 4) ?_
  refine And.intro (fun c1 => ?_) (fun c1 => ?_)
  · rw [bI_0.mp c1]
    exact And.intro rfl (And.intro rfl rfl)
  rw [bI_n0.mp c1]
  refine call_eq (c_X_isWithin g (d + 1) I D dr 0 3000) ?_
  refine And.intro (fun c2 => ?_) (fun c2 => ?_)
  · rw [bI_0.mp c2]
    exact And.intro rfl (And.intro rfl rfl)
  rw [bI_n0.mp c2]
  refine call_eq (c_X_isWithin g (d + 1) I D pc 0 3000) ?_
  refine And.intro (fun c3 => ?_) (fun c3 => ?_)
  · rw [bI_0.mp c3]
    exact And.intro rfl (And.intro rfl rfl)
  rw [bI_n0.mp c3]
  refine call_eq (c_X_isWithin g (d + 1) I D x (-1000) 1000) ?_
  refine And.intro (fun c4 => ?_) (fun c4 => ?_)
  · rw [bI_n0.mp c4]
    refine And.intro (fun c5 => ?_) (fun c5 => ?_)
    · rw [decide_eq_true c5, if_pos c5, if_pos c5]
      refine call_eq (c_X_isShipOrNothing g (d + 1) I D p) ?_
      rw [hor]
      refine And.intro (fun c6 => ?_) (fun c6 => ?_)
      · rw [bI_0.mp c6]
        exact And.intro rfl (And.intro rfl rfl)
      have h6 := bI_n0.mp c6
      rw [h6]
      refine call_eq (c_X_isShipOrNothing g (d + 1) I D q) ?_
      rw [hor]
      refine And.intro (fun c7 => ?_) (fun c7 => ?_)
      · have h7 := bI_n0.mp c7
        rw [h7]
        refine call_eq (c_X_shadd g d I D m hm hS k dr pc x p q (fun _ => ⟨h6, h7⟩)) ?_
        exact And.intro rfl (And.intro rfl rfl)
      · rw [bI_0.mp c7]
        exact And.intro rfl (And.intro rfl rfl)
    · rw [decide_eq_false c5, if_neg c5, if_neg c5]
      refine call_eq (c_X_shadd g d I D m hm hS k dr pc x (-1) (-1) (fun z => absurd z c5)) ?_
      have e0 : ∀ a b, deepS (I 48) k a b = 0 := fun a b => by unfold deepS; rw [if_neg c5]
      rw [e0, e0]
      exact And.intro rfl (And.intro rfl rfl)
  · rw [bI_0.mp c4]
    exact And.intro rfl (And.intro rfl rfl)
set_option maxHeartbeats 2000000 in
theorem c_M_ship (m : Nat) (hm : m ≤ 40) (hS : I 12 49 = nI m) (k dr pc x p q : Int32) : Con g SHc (d + 3) 199 [.ref 12, .int k, .int dr, .int pc, .int x, .int p, .int q] I D (EqP (some (.int (sel3 (shOkB m k dr pc x p q) (decide (4 < deepS (I 108) k p q)) (!decide (m < 40)) (-2) (-3) (-4) (nI m)))) (sel3 (shOkB m k dr pc x p q) (decide (4 < deepS (I 108) k p q)) (!decide (m < 40)) I I I (shpM I m k dr pc x (if k = 4 then p else -1) (if k = 4 then q else -1) (deepS (I 108) k p q))) D) := by
  refine Con.mk (LV := v_M_ship2) k_M_ship2 (Nat.le_of_ble_eq_true rfl) (fun K hK => ?_)
  have hor : ∀ v, (decide (v = -1) || wi v 0 (I 12 49 - 1)) = shN v m := fun v => by rw [hS]; exact shN_M (by omega)
  have body : ∀ dp, dp = deepS (I 108) k p q → shOkB m k dr pc x p q = true → K 135 [(0, .ref 12), (1, .int k), (2, .int dr), (3, .int pc), (4, .int x), (5, .int p), (6, .int q), (7, .int dp)] [] I D := by
    intro dp hdp hok
    rw [hok, ← hdp] at hK
    have hin : m < 40 → inn (I 12 49) 40 := fun h => by rw [hS]; exact inn_nI h (by decide)
    have e2 : 2 * I 12 49 = nI (2 * m) := by rw [hS]; exact pk_mul 2 m
    have e21 : 2 * I 12 49 + 1 = nI (2 * m + 1) := by rw [e2, nI_1]
    have hin2 : m < 40 → inn (2 * I 12 49) 80 := fun h => by rw [e2]; exact inn_nI (by omega) (by decide)
    have hin3 : m < 40 → inn (2 * I 12 49 + 1) 80 := fun h => by rw [e21]; exact inn_nI (by omega) (by decide)
    refine hK (135, 271, o_M_ship2_1) (List.mem_of_getElem? (i := 1) rfl) _ _ _ _ ?_
    refine And.intro (fun c1 => ?_) (fun c1 => ?_)
    · rw [decide_eq_false (i32_nlt.mpr c1)]
      refine And.intro (fun c2 => ?_) (fun c2 => ?_)
      · rw [hS] at c2
        have h40 : m < 40 := by
          rcases Nat.lt_or_ge m 40 with h | h
          · exact h
          · exact absurd (show nI m = nI 40 by rw [show m = 40 by omega]) c2
        rw [decide_eq_true h40]
        refine And.intro (hin h40) ?_
        refine And.intro (hin h40) ?_
        refine And.intro (hin h40) ?_
        refine And.intro (hin h40) ?_
        refine And.intro (fun c3 => ?_) (fun c3 => ?_)
        · rw [if_neg c3, if_neg c3]
          refine And.intro (hin2 h40) ?_
          refine And.intro (fun _ => ?_) (fun z => absurd z c3)
          refine And.intro (hin3 h40) ?_
          refine And.intro (hin h40) ?_
          refine And.intro ?_ (And.intro ?_ rfl)
          · show some (Value.int (I 12 49 + 1 - 1)) = some (Value.int (nI m))
            rw [hS, nI_1, nI_pred]
          · show up2 (up2 (up2 (up2 (up2 (up2 (up2 (up2 I 103 (I 12 49).toNatClampNeg k) 104 (I 12 49).toNatClampNeg dr) 105 (I 12 49).toNatClampNeg pc) 106 (I 12 49).toNatClampNeg x) 107 (2 * I 12 49).toNatClampNeg (-1)) 107 (2 * I 12 49 + 1).toNatClampNeg (-1)) 108 (I 12 49).toNatClampNeg dp) 12 49 (I 12 49 + 1) = shpM I m k dr pc x (-1) (-1) dp
            rw [e21, e2, hS, nI_1, nI_clamp (show m < 2 ^ 31 by omega), nI_clamp (show 2 * m < 2 ^ 31 by omega), nI_clamp (show 2 * m + 1 < 2 ^ 31 by omega)]
            rfl
        · rw [if_pos c3, if_pos c3]
          refine And.intro (hin2 h40) ?_
          refine And.intro (fun z => absurd c3 z) (fun _ => ?_)
          refine And.intro (hin3 h40) ?_
          refine And.intro (hin h40) ?_
          refine And.intro ?_ (And.intro ?_ rfl)
          · show some (Value.int (I 12 49 + 1 - 1)) = some (Value.int (nI m))
            rw [hS, nI_1, nI_pred]
          · show up2 (up2 (up2 (up2 (up2 (up2 (up2 (up2 I 103 (I 12 49).toNatClampNeg k) 104 (I 12 49).toNatClampNeg dr) 105 (I 12 49).toNatClampNeg pc) 106 (I 12 49).toNatClampNeg x) 107 (2 * I 12 49).toNatClampNeg p) 107 (2 * I 12 49 + 1).toNatClampNeg q) 108 (I 12 49).toNatClampNeg dp) 12 49 (I 12 49 + 1) = shpM I m k dr pc x p q dp
            rw [e21, e2, hS, nI_1, nI_clamp (show m < 2 ^ 31 by omega), nI_clamp (show 2 * m < 2 ^ 31 by omega), nI_clamp (show 2 * m + 1 < 2 ^ 31 by omega)]
            rfl
      · rw [hS] at c2
        have h40 : ¬ m < 40 := fun z => by
          have := (nI_eq (a := m) (b := 40) (by omega) (by decide)).mp c2
          omega
        rw [decide_eq_false h40]
        exact And.intro rfl (And.intro rfl rfl)
    · rw [decide_eq_true (i32_nle.mp c1)]
      exact And.intro rfl (And.intro rfl rfl)
  refine hK (0, 135, o_M_ship2_0) (List.mem_of_getElem? (i := 0) rfl) _ _ _ _ ?_
  have no : shOkB m k dr pc x p q = false → EqP (some (.int (sel3 (shOkB m k dr pc x p q) (decide (4 < deepS (I 108) k p q)) (!decide (m < 40)) (-2) (-3) (-4) (nI m)))) (sel3 (shOkB m k dr pc x p q) (decide (4 < deepS (I 108) k p q)) (!decide (m < 40)) I I I (shpM I m k dr pc x (if k = 4 then p else -1) (if k = 4 then q else -1) (deepS (I 108) k p q))) D (some (.int (-2))) I D := by
    intro h
    rw [h]
    exact And.intro rfl (And.intro rfl rfl)
  refine call_eq (c_M_in g (d + 2) I D k 0 4) ?_
  refine And.intro (fun c1 => ?_) (fun c1 => ?_)
  · exact no (by unfold shOkB; rw [bI_0.mp c1]; rfl)
  refine call_eq (c_M_in g (d + 2) I D dr 0 3000) ?_
  refine And.intro (fun c2 => ?_) (fun c2 => ?_)
  · exact no (by unfold shOkB; rw [bI_0.mp c2, Bool.and_false]; rfl)
  refine call_eq (c_M_in g (d + 2) I D pc 0 3000) ?_
  refine And.intro (fun c3 => ?_) (fun c3 => ?_)
  · exact no (by unfold shOkB; rw [bI_0.mp c3, Bool.and_false]; rfl)
  refine call_eq (c_M_in g (d + 2) I D x (-1000) 1000) ?_
  refine And.intro (fun c4 => ?_) (fun c4 => ?_)
  · exact no (by unfold shOkB; rw [bI_0.mp c4, Bool.and_false]; rfl)
  refine And.intro (fun c5 => ?_) (fun c5 => ?_)
  · refine And.intro (fun _ => ?_) (fun z => absurd z c5)
    exact body 0 (by unfold deepS; rw [if_neg c5]) (by unfold shOkB; rw [bI_n0.mp c1, bI_n0.mp c2, bI_n0.mp c3, bI_n0.mp c4, decide_eq_false c5]; rfl)
  refine call_eq (c_M_isPart g d I D p) ?_
  rw [hor]
  refine And.intro (fun c6 => ?_) (fun c6 => ?_)
  · exact no (by unfold shOkB; rw [bI_0.mp c6, decide_eq_true c5]; simp)
  have h6 := bI_n0.mp c6
  refine call_eq (c_M_isPart g d I D q) ?_
  rw [hor]
  refine And.intro (fun c7 => ?_) (fun c7 => ?_)
  · have h7 := bI_n0.mp c7
    have hok : shOkB m k dr pc x p q = true := by unfold shOkB; rw [bI_n0.mp c1, bI_n0.mp c2, bI_n0.mp c3, bI_n0.mp c4, h6, h7]; simp
    refine And.intro (fun z => absurd c5 z) (fun _ => ?_)
    have in40 : ∀ v, shN v m = true → ¬ v = -1 → inn v 40 := by
      intro v hv hn
      rcases shN_e (by omega) hv with h | ⟨j, hj, h⟩
      · exact absurd h hn
      · rw [h]; exact inn_nI (by omega) (by decide)
    have hdp : ∀ a b, a = dpS (I 108) p → b = dpS (I 108) q → (b < a → 1 + a = deepS (I 108) k p q) ∧ (¬ b < a → 1 + b = deepS (I 108) k p q) := by
      intro a b ha hb
      unfold deepS
      rw [if_pos c5, ← ha, ← hb, ← mxI_le]
      exact ⟨fun h => by rw [if_pos h], fun h => by rw [if_neg h]⟩
    refine And.intro (fun c8 => ?_) (fun c8 => ?_)
    · refine And.intro (in40 p h6 c8) ?_
      refine And.intro (fun c9 => ?_) (fun c9 => ?_)
      · refine And.intro (in40 q h7 c9) ?_
        refine And.intro (fun c10 => ?_) (fun c10 => ?_)
        · exact body _ ((hdp (I 108 p.toNatClampNeg) (I 108 q.toNatClampNeg) (if_neg c8).symm (if_neg c9).symm).2 (i32_nlt.mpr c10)) hok
        · exact body _ ((hdp (I 108 p.toNatClampNeg) (I 108 q.toNatClampNeg) (if_neg c8).symm (if_neg c9).symm).1 (i32_nle.mp c10)) hok
      · refine And.intro (fun c10 => ?_) (fun c10 => ?_)
        · exact body _ ((hdp (I 108 p.toNatClampNeg) 0 (if_neg c8).symm (if_pos c9).symm).2 (i32_nlt.mpr c10)) hok
        · exact body _ ((hdp (I 108 p.toNatClampNeg) 0 (if_neg c8).symm (if_pos c9).symm).1 (i32_nle.mp c10)) hok
    · refine And.intro (fun c9 => ?_) (fun c9 => ?_)
      · refine And.intro (in40 q h7 c9) ?_
        refine And.intro (fun c10 => ?_) (fun c10 => ?_)
        · exact body _ ((hdp 0 (I 108 q.toNatClampNeg) (if_pos c8).symm (if_neg c9).symm).2 (i32_nlt.mpr c10)) hok
        · exact body _ ((hdp 0 (I 108 q.toNatClampNeg) (if_pos c8).symm (if_neg c9).symm).1 (i32_nle.mp c10)) hok
      · refine And.intro (fun c10 => ?_) (fun c10 => ?_)
        · exact body _ ((hdp 0 0 (if_pos c8).symm (if_pos c9).symm).2 (i32_nlt.mpr c10)) hok
        · exact body _ ((hdp 0 0 (if_pos c8).symm (if_pos c9).symm).1 (i32_nle.mp c10)) hok
  · exact no (by unfold shOkB; rw [bI_0.mp c7, decide_eq_true c5]; simp)
end S63
