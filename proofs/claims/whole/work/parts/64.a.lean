def o_M_leg2_0 : List Op := [(0, .iload_n 1, 1, 0, .null), (1, .invokestatic 437, 224, 1, .ref 0), (4, .ifCond .eq 44, 48, 0, .null), (7, .aload_n 0, 0, 0, .null), (8, .iload_n 2, 2, 0, .null), (9, .invokevirtual 345, 183, 1, .ref 12), (12, .ifCond .eq 36, 48, 0, .null), (15, .iload_n 3, 3, 0, .null), (16, .iconst 0, 0, 0, .int 0), (17, .ldc_w 440, 0, 0, .int 50000), (20, .invokestatic 216, 150, 3, .ref 0), (23, .ifCond .eq 25, 48, 0, .null), (26, .iload 4, 4, 0, .null), (28, .invokestatic 308, 170, 1, .ref 0), (31, .ifCond .ne 13, 44, 0, .null), (34, .iload 4, 4, 0, .null), (36, .invokestatic 315, 0, 0, .ref 1), (39, .fconst 0, 0, 0, .float 0), (40, .fcmp .l, 0, 0, .null), (41, .ifCond .lt 7, 48, 0, .null), (44, .iconst 1, 0, 0, .int 1), (45, .goto 4, 49, 0, .null), (48, .iconst 0, 0, 0, .int 0)]
def o_M_leg2_1 : List Op := [(49, .istore 5, 5, 0, .null), (51, .iload 5, 5, 0, .null), (53, .ifCond .eq 33, 86, 0, .null), (56, .aload_n 0, 0, 0, .null), (57, .getfield 163, 12, 67, .null), (60, .iload_n 1, 1, 0, .null), (61, .iaload, 0, 0, .null), (62, .ifCond .le 27, 89, 0, .null), (65, .iload_n 3, 3, 0, .null), (66, .aload_n 0, 0, 0, .null), (67, .getfield 169, 12, 69, .null), (70, .iconst 4, 0, 0, .int 4), (71, .iload_n 1, 1, 0, .null), (72, .imul, 0, 0, .null), (73, .aload_n 0, 0, 0, .null), (74, .getfield 163, 12, 67, .null), (77, .iload_n 1, 1, 0, .null), (78, .iaload, 0, 0, .null), (79, .iadd, 0, 0, .null), (80, .iconst 1, 0, 0, .int 1), (81, .isub, 0, 0, .null), (82, .iaload, 0, 0, .null), (83, .if_icmp .ge 6, 89, 0, .null), (86, .bipush (-2), 0, 0, .int (-2)), (88, .ireturn, 0, 0, .null)]
def o_M_leg2_2 : List Op := [(89, .aload_n 0, 0, 0, .null), (90, .iload_n 1, 1, 0, .null), (91, .invokevirtual 441, 225, 1, .ref 12), (94, .ifCond .eq 6, 100, 0, .null), (97, .bipush (-3), 0, 0, .int (-3)), (99, .ireturn, 0, 0, .null), (100, .aload_n 0, 0, 0, .null), (101, .getfield 163, 12, 67, .null), (104, .iload_n 1, 1, 0, .null), (105, .iaload, 0, 0, .null), (106, .iconst 4, 0, 0, .int 4), (107, .if_icmp .ne 6, 113, 0, .null), (110, .bipush (-4), 0, 0, .int (-4)), (112, .ireturn, 0, 0, .null), (113, .iconst 4, 0, 0, .int 4), (114, .iload_n 1, 1, 0, .null), (115, .imul, 0, 0, .null), (116, .aload_n 0, 0, 0, .null), (117, .getfield 163, 12, 67, .null), (120, .iload_n 1, 1, 0, .null), (121, .iaload, 0, 0, .null), (122, .iadd, 0, 0, .null), (123, .istore 6, 6, 0, .null), (125, .aload_n 0, 0, 0, .null), (126, .getfield 166, 12, 68, .null), (129, .iload 6, 6, 0, .null), (131, .iload_n 2, 2, 0, .null), (132, .iastore, 0, 0, .null), (133, .aload_n 0, 0, 0, .null), (134, .getfield 169, 12, 69, .null), (137, .iload 6, 6, 0, .null), (139, .iload_n 3, 3, 0, .null), (140, .iastore, 0, 0, .null), (141, .aload_n 0, 0, 0, .null), (142, .getfield 172, 12, 70, .null), (145, .iload 6, 6, 0, .null), (147, .iload 4, 4, 0, .null), (149, .invokestatic 308, 170, 1, .ref 0), (152, .ifCond .eq 9, 161, 0, .null), (155, .ldc_w 311, 0, 0, .int 2143289344), (158, .goto 5, 163, 0, .null), (161, .iload 4, 4, 0, .null), (163, .iastore, 0, 0, .null), (164, .aload_n 0, 0, 0, .null), (165, .getfield 163, 12, 67, .null), (168, .iload_n 1, 1, 0, .null), (169, .dup2, 0, 0, .null), (170, .iaload, 0, 0, .null), (171, .iconst 1, 0, 0, .int 1), (172, .iadd, 0, 0, .null), (173, .iastore, 0, 0, .null), (174, .aload_n 0, 0, 0, .null), (175, .getfield 163, 12, 67, .null), (178, .iload_n 1, 1, 0, .null), (179, .iaload, 0, 0, .null), (180, .ireturn, 0, 0, .null)]
def v_M_leg2 : List (Nat × List Nat) := [(0, [0, 1, 2, 3, 4]), (49, [0, 1, 2, 3, 4]), (89, [0, 1, 2, 3, 4])]
def s_M_leg2 : List (Nat × Nat × List Op) := [(0, 49, o_M_leg2_0), (49, 89, o_M_leg2_1), (89, 181, o_M_leg2_2)]
set_option maxRecDepth 100000 in
theorem k_M_leg2 : MOk P_M s_M_leg2 223 7 := ⟨P_M_ok, _, rfl, rfl, rfl, by decide +kernel⟩
/-! leg -/
def mkB (mk : Int32) : Bool := decide (0 ≤ mk) || noF mk || decide (mk &&& 2147483647 = 0)
def mkN (mk : Int32) : Int32 := if noF mk = true then 2143289344 else mk
def lsD (lg ds : Nat → Int32) (r : Nat) : Int32 := if lg r = 0 then 0 else ds (4 * r + (lg r).toNatClampNeg - 1)
def lgOk (h : Nat) (rt sh ds mk la : Int32) : Bool := wi rt 0 5 && ix sh (nI h) && mkB mk && wi ds la 50000
theorem mk_f {mk : Int32} (h : noF mk = false) : Op.cmpValue (FP.fcmp mk.toUInt32 0) .l < 0 ↔ ¬ (0 ≤ mk ∨ mk &&& 2147483647 = 0) := by
  have h1 := fcmp_ord (a := mk) (b := 0) h (by decide)
  rw [show (0 : Int32).toUInt32 = 0 from rfl] at h1
  rw [h1, show (ordI 0).toInt = 0 by decide]
  have e0 : ((0 : Int32)).toInt = 0 := by decide
  have ha := and_abs mk
  have hlt : mk.toUInt32.toNat % 2 ^ 31 < 2 ^ 31 := Nat.mod_lt _ (by decide)
  have hk : (ordI mk).toInt < 0 ↔ ¬ (0 ≤ mk ∨ mk &&& 2147483647 = 0) := by
    unfold ordI
    by_cases c : 0 ≤ mk
    · rw [if_pos c]
      rw [i32_le, e0] at c
      constructor
      · intro z; omega
      · intro z; exact absurd (Or.inl (by rw [i32_le, e0]; exact c)) z
    · rw [if_neg c, Int32.toInt_neg, ha, bm32 (by omega) (by omega)]
      have hz : mk &&& 2147483647 = 0 ↔ mk.toUInt32.toNat % 2 ^ 31 = 0 := by
        rw [← Int32.toInt_inj, ha, e0]
        omega
      rw [hz]
      constructor
      · intro z w
        rcases w with w | w
        · exact c w
        · omega
      · intro z
        have : ¬ mk.toUInt32.toNat % 2 ^ 31 = 0 := fun w => z (Or.inr w)
        omega
  rw [← hk]
  rcases Int.lt_trichotomy (ordI mk).toInt 0 with c | c | c
  · rw [(FP.Core.compare_lt_iff _ _).mpr c]
    exact ⟨fun _ => c, fun _ => by decide⟩
  · rw [c]
    exact ⟨fun z => absurd z (by decide), fun z => absurd z (by decide)⟩
  · rw [(FP.Core.compare_gt_iff _ _).mpr c]
    exact ⟨fun z => absurd z (by decide), fun z => by omega⟩
section S64
variable (g : Gp) (d : Nat) (I : MI) (D : MD)
def lgX (I : MI) (r l : Nat) (sh ds mk : Int32) : MI := up2 (up2 (up2 (up2 I 51 (4 * r + l) sh) 52 (4 * r + l) ds) 53 (4 * r + l) mk) 50 r (nI (l + 1))
def lgM (I : MI) (r l : Nat) (sh ds mk : Int32) : MI := up2 (up2 (up2 (up2 I 118 (4 * r + l) sh) 119 (4 * r + l) ds) 120 (4 * r + l) mk) 117 r (nI (l + 1))
theorem c_X_lastDistance (r l : Nat) (hr : r < 6) (hl : l ≤ 4) (hL : I 50 r = nI l) : Con g SHc d 108 [.ref 7, .int (nI r)] I D (EqP (some (.int (lsD (I 50) (I 52) r))) I D) := by
  refine Con.mk (LV := v_Routes_lastDistance) k_Routes_lastDistance (Nat.le_of_ble_eq_true rfl) (fun K hK => ?_)
  refine hK (0, 31, o_Routes_lastDistance_0) (List.mem_of_getElem? (i := 0) rfl) _ _ _ _ ?_
  have hrc : (nI r).toNatClampNeg = r := nI_clamp (by omega)
  unfold lsD
  refine And.intro (inn_nI hr (by decide)) ?_
  rw [hrc]
  refine And.intro (fun c => ?_) (fun c => ?_)
  · rw [if_neg c]
    refine And.intro (inn_nI hr (by decide)) ?_
    rw [hrc]
    have h0 : ¬ l = 0 := fun z => c (by rw [hL, z]; rfl)
    have e : nI r * 4 + I 50 r - 1 = nI (4 * r + l - 1) := by
      rw [hL, show (4 : Int32) = nI 4 from rfl, pk_mul, nI_add, Nat.mul_comm r 4]
      exact nI_sub (b := 1) (by omega)
    refine And.intro (by rw [e]; exact inn_nI (by omega) (by decide)) ?_
    rw [e, nI_clamp (show 4 * r + l - 1 < 2 ^ 31 by omega), hL, nI_clamp (show l < 2 ^ 31 by omega)]
    exact And.intro rfl (And.intro rfl rfl)
  · rw [if_pos c]
    exact And.intro rfl (And.intro rfl rfl)
theorem c_X_radd (r l : Nat) (hr : r < 6) (hl : l ≤ 4) (hL : I 50 r = nI l) (sh ds mk : Int32) : Con g SHc d 110 [.ref 7, .int (nI r), .int sh, .int ds, .int mk] I D (EqP (some (.int (if l < 4 then nI (l + 1) else -4))) (if l < 4 then lgX I r l sh ds mk else I) D) := by
  refine Con.mk (LV := v_Routes_add) k_Routes_add (Nat.le_of_ble_eq_true rfl) (fun K hK => ?_)
  refine hK (0, 67, o_Routes_add_0) (List.mem_of_getElem? (i := 0) rfl) _ _ _ _ ?_
  have hrc : (nI r).toNatClampNeg = r := nI_clamp (by omega)
  have h6 : inn (nI r) 6 := inn_nI hr (by decide)
  refine And.intro (h6) ?_
  rw [hrc]
  refine And.intro (fun c => ?_) (fun c => ?_)
  · rw [hL] at c
    have h4 : l < 4 := by
      rcases Nat.lt_or_ge l 4 with h | h
      · exact h
      · exact absurd (show nI l < nI 4 from c) (nI_nlt h (by omega))
    rw [if_pos h4, if_pos h4]
    refine And.intro (h6) ?_
    rw [hrc]
    have e : nI r * 4 + I 50 r = nI (4 * r + l) := by
      rw [hL, show (4 : Int32) = nI 4 from rfl, pk_mul, nI_add, Nat.mul_comm r 4]
    have hin : inn (nI r * 4 + I 50 r) 24 := by rw [e]; exact inn_nI (by omega) (by decide)
    refine And.intro (hin) ?_
    refine And.intro (hin) ?_
    refine And.intro (hin) ?_
    refine And.intro (h6) ?_
    refine And.intro (h6) ?_
    refine And.intro (h6) ?_
    rw [hrc]
    refine And.intro ?_ (And.intro ?_ rfl)
    · show some (Value.int (up2 _ 50 r (I 50 r + 1) 50 r)) = _
      rw [up2_at, hL, nI_1]
    · show up2 (up2 (up2 (up2 I 51 (nI r * 4 + I 50 r).toNatClampNeg sh) 52 (nI r * 4 + I 50 r).toNatClampNeg ds) 53 (nI r * 4 + I 50 r).toNatClampNeg mk) 50 r (I 50 r + 1) = _
      rw [e, hL, nI_1, nI_clamp (show 4 * r + l < 2 ^ 31 by omega)]
      rfl
  · rw [hL] at c
    have h4 : ¬ l < 4 := fun z => c (show nI l < nI 4 from nI_lt z (by decide))
    rw [if_neg h4, if_neg h4]
    exact And.intro rfl (And.intro rfl rfl)
theorem c_X_leg (h n : Nat) (hh : h ≤ 16) (hH : I 4 8 = nI h) (hn : n ≤ 40) (hN : I 11 13 = nI n) (hL : ∀ r, r < 6 → ∃ l, l ≤ 4 ∧ I 50 r = nI l) (rt sh ds mk : Int32) : Con g SHc (d + 2) 105 [.ref 0, .int rt, .int sh, .int ds, .int mk] I D (EqP (some (.int (sel3 (lgOk h rt sh ds mk (lsD (I 50) (I 52) rt.toNatClampNeg)) (usF (I 63) (I 66) rt n) (!decide ((I 50 rt.toNatClampNeg).toNatClampNeg < 4)) (-2) (-3) (-4) (nI ((I 50 rt.toNatClampNeg).toNatClampNeg + 1))))) (sel3 (lgOk h rt sh ds mk (lsD (I 50) (I 52) rt.toNatClampNeg)) (usF (I 63) (I 66) rt n) (!decide ((I 50 rt.toNatClampNeg).toNatClampNeg < 4)) I I I (lgX I rt.toNatClampNeg (I 50 rt.toNatClampNeg).toNatClampNeg sh ds (mkN mk))) D) := by
  refine Con.mk (LV := v_X_leg) k_X_leg (Nat.le_of_ble_eq_true rfl) (fun K hK => ?_)
  refine hK (0, 84, o_X_leg_0) (List.mem_of_getElem? (i := 0) rfl) _ _ _ _ ?_
  unfold lgOk
  refine call_eq (c_X_isRoute g (d + 1) I D rt) ?_
  refine And.intro (fun c1 => ?_) (fun c1 => ?_)
  · rw [bI_0.mp c1]
    exact And.intro rfl (And.intro rfl rfl)
  have h1 := bI_n0.mp c1
  rw [h1]
  obtain ⟨r, hr, rfl⟩ := wi_nI (m := 5) (by decide) h1
  have hrc : (nI r).toNatClampNeg = r := nI_clamp (by omega)
  obtain ⟨l, hl, hle⟩ := hL r (by omega)
  rw [hrc]
  refine call_eq (c_X_isShoal g (d + 1) I D sh) ?_
  have hix : (decide (0 ≤ sh) && decide (sh < I 4 8)) = ix sh (nI h) := by rw [hH]; rfl
  rw [hix]
  refine And.intro (fun c2 => ?_) (fun c2 => ?_)
  · rw [bI_0.mp c2]
    exact And.intro rfl (And.intro rfl rfl)
  rw [bI_n0.mp c2]
  refine call_eq (c_X_isMark g d I D mk) ?_
  refine And.intro (fun c3 => ?_) (fun c3 => ?_)
  · rw [show mkB mk = false from bI_0.mp c3]
    exact And.intro rfl (And.intro rfl rfl)
  rw [show mkB mk = true from bI_n0.mp c3]
  refine call_eq (c_X_lastDistance g (d + 1) I D r l (by omega) hl hle) ?_
  refine call_eq (c_X_isWithin g (d + 1) I D ds _ 50000) ?_
  refine And.intro (fun c4 => ?_) (fun c4 => ?_)
  · rw [bI_n0.mp c4]
    refine call_eq (c_X_useRoute g (d + 1) I D n hn hN (nI r)) ?_
    rw [hle, nI_clamp (show l < 2 ^ 31 by omega)]
    refine And.intro (fun c5 => ?_) (fun c5 => ?_)
    · rw [bI_0.mp c5]
      have fin : ∀ mk', mk' = mkN mk → CaD g SHc (d + 2) 110 [.ref 7, .int (nI r), .int sh, .int ds, .int mk'] I D (fun o J E => o = some (.int (sel3 (true && true && true && true) false (!decide (l < 4)) (-2) (-3) (-4) (nI (l + 1)))) ∧ J = (sel3 (true && true && true && true) false (!decide (l < 4)) I I I (lgX I r l sh ds (mkN mk))) ∧ E = D) := by
        intro mk' hmk
        refine call_eq (c_X_radd g (d + 1) I D r l (by omega) hl hle sh ds mk') ?_
        rw [hmk]
        by_cases h4 : l < 4
        · rw [if_pos h4, if_pos h4, decide_eq_true h4]
          exact ⟨rfl, rfl, rfl⟩
        · rw [if_neg h4, if_neg h4, decide_eq_false h4]
          exact ⟨rfl, rfl, rfl⟩
      refine call_eq (c_X_isNoFloat g (d + 1) I D mk) ?_
      refine And.intro (fun c6 => ?_) (fun c6 => ?_)
      · obtain ⟨Post, hC, hk⟩ := fin mk (by unfold mkN; rw [if_neg (by rw [bI_0.mp c6]; decide)])
        refine ⟨Post, hC, fun o J E hp => ?_⟩
        obtain ⟨rfl, rfl, rfl⟩ := hk o J E hp
        exact And.intro rfl (And.intro rfl rfl)
      · obtain ⟨Post, hC, hk⟩ := fin 2143289344 (by unfold mkN; rw [if_pos (bI_n0.mp c6)])
        refine ⟨Post, hC, fun o J E hp => ?_⟩
        obtain ⟨rfl, rfl, rfl⟩ := hk o J E hp
        exact And.intro rfl (And.intro rfl rfl)
    · rw [bI_n0.mp c5]
      exact And.intro rfl (And.intro rfl rfl)
  · rw [bI_0.mp c4]
    exact And.intro rfl (And.intro rfl rfl)
set_option maxHeartbeats 2000000 in
theorem c_M_leg (h n : Nat) (hh : h ≤ 16) (hH : I 12 33 = nI h) (hn : n ≤ 40) (hN : I 12 78 = nI n) (hL : ∀ r, r < 6 → ∃ l, l ≤ 4 ∧ I 117 r = nI l) (hD : ∀ r, r < 6 → 0 ≤ (lsD (I 117) (I 119) r).toInt) (rt sh ds mk : Int32) : Con g SHc (d + 2) 223 [.ref 12, .int rt, .int sh, .int ds, .int mk] I D (EqP (some (.int (sel3 (lgOk h rt sh ds mk (lsD (I 117) (I 119) rt.toNatClampNeg)) (usF (I 124) (I 128) rt n) (!decide ((I 117 rt.toNatClampNeg).toNatClampNeg < 4)) (-2) (-3) (-4) (nI ((I 117 rt.toNatClampNeg).toNatClampNeg + 1))))) (sel3 (lgOk h rt sh ds mk (lsD (I 117) (I 119) rt.toNatClampNeg)) (usF (I 124) (I 128) rt n) (!decide ((I 117 rt.toNatClampNeg).toNatClampNeg < 4)) I I I (lgM I rt.toNatClampNeg (I 117 rt.toNatClampNeg).toNatClampNeg sh ds (mkN mk))) D) := by
  refine Con.mk (LV := v_M_leg2) k_M_leg2 (Nat.le_of_ble_eq_true rfl) (fun K hK => ?_)
  have k49n : lgOk h rt sh ds mk (lsD (I 117) (I 119) rt.toNatClampNeg) = false → K 49 [(0, .ref 12), (1, .int rt), (2, .int sh), (3, .int ds), (4, .int mk)] [.int 0] I D := by
    intro hn0
    rw [hn0] at hK
    refine hK (49, 89, o_M_leg2_1) (List.mem_of_getElem? (i := 1) rfl) _ _ _ _ ?_
    refine And.intro (fun _ => ?_) (fun z => absurd rfl z)
    exact And.intro rfl (And.intro rfl rfl)
  have k49 : wi rt 0 5 = true → ix sh (nI h) = true → mkB mk = true → wi ds 0 50000 = true → K 49 [(0, .ref 12), (1, .int rt), (2, .int sh), (3, .int ds), (4, .int mk)] [.int 1] I D := by
    intro h1 h2 h3 h4
    obtain ⟨r, hr, rfl⟩ := wi_nI (m := 5) (by decide) h1
    have hrc : (nI r).toNatClampNeg = r := nI_clamp (by omega)
    have h6 : inn (nI r) 6 := inn_nI (by omega) (by decide)
    obtain ⟨l, hl, hle⟩ := hL r (by omega)
    have hlc : (nI l).toNatClampNeg = l := nI_clamp (by omega)
    have hD' := hD r (by omega)
    have e4 : 4 * nI r + nI l = nI (4 * r + l) := nI_lin' 4 r l
    have k89 : lgOk h (nI r) sh ds mk (lsD (I 117) (I 119) (nI r).toNatClampNeg) = true → K 89 [(0, .ref 12), (1, .int (nI r)), (2, .int sh), (3, .int ds), (4, .int mk)] [] I D := by
      intro hok
      rw [hok, hrc, hle, hlc] at hK
      refine hK (89, 181, o_M_leg2_2) (List.mem_of_getElem? (i := 2) rfl) _ _ _ _ ?_
      refine call_eq (c_M_isStarted g (d + 1) I D n hn hN (nI r)) ?_
      refine And.intro (fun c5 => ?_) (fun c5 => ?_)
      · rw [bI_0.mp c5]
        refine And.intro (h6) ?_
        rw [hrc]
        refine And.intro (fun c6 => ?_) (fun c6 => ?_)
        · rw [hle] at c6
          have h4' : l < 4 := by
            rcases Nat.lt_or_ge l 4 with z | z
            · exact z
            · exact absurd (show nI l = nI 4 by rw [show l = 4 by omega]) c6
          rw [decide_eq_true h4']
          refine And.intro (h6) ?_
          rw [hrc]
          have e : 4 * nI r + I 117 r = nI (4 * r + l) := by rw [hle]; exact e4
          have hin : inn (4 * nI r + I 117 r) 24 := by rw [e]; exact inn_nI (by omega) (by decide)
          refine And.intro (hin) ?_
          refine And.intro (hin) ?_
          have fin : ∀ mk', mk' = mkN mk → EqP (some (.int (nI (l + 1)))) (lgM I r l sh ds (mkN mk)) D (some (.int (up2 (up2 (up2 (up2 I 118 (4 * nI r + I 117 r).toNatClampNeg sh) 119 (4 * nI r + I 117 r).toNatClampNeg ds) 120 (4 * nI r + I 117 r).toNatClampNeg mk') 117 (nI r).toNatClampNeg (I 117 (nI r).toNatClampNeg + 1) 117 (nI r).toNatClampNeg))) (up2 (up2 (up2 (up2 I 118 (4 * nI r + I 117 r).toNatClampNeg sh) 119 (4 * nI r + I 117 r).toNatClampNeg ds) 120 (4 * nI r + I 117 r).toNatClampNeg mk') 117 (nI r).toNatClampNeg (I 117 (nI r).toNatClampNeg + 1)) D := by
            intro mk' hmk
            refine ⟨?_, ?_, rfl⟩
            · rw [up2_at, hrc, hle, nI_1]
            · rw [hrc, e, hle, nI_1, nI_clamp (show 4 * r + l < 2 ^ 31 by omega), hmk]
              rfl
          refine call_eq (c_M_isNoFloat g (d + 1) _ D mk) ?_
          refine And.intro (fun c7 => ?_) (fun c7 => ?_)
          · refine And.intro (hin) ?_
            refine And.intro (h6) ?_
            refine And.intro (h6) ?_
            refine And.intro (h6) ?_
            exact fin mk (by unfold mkN; rw [if_neg (by rw [bI_0.mp c7]; decide)])
          · refine And.intro (hin) ?_
            refine And.intro (h6) ?_
            refine And.intro (h6) ?_
            refine And.intro (h6) ?_
            exact fin 2143289344 (by unfold mkN; rw [if_pos (bI_n0.mp c7)])
        · rw [hle] at c6
          have h4' : ¬ l < 4 := fun z => by
            have := (nI_eq (a := l) (b := 4) (by omega) (by decide)).mp c6
            omega
          rw [decide_eq_false h4']
          exact And.intro rfl (And.intro rfl rfl)
      · rw [bI_n0.mp c5]
        exact And.intro rfl (And.intro rfl rfl)
    have hw0 : ∀ la : Int32, 0 ≤ la.toInt → la ≤ ds → wi ds la 50000 = true := by
      intro la _ hq
      unfold wi at h4 ⊢
      rw [Bool.and_eq_true] at h4
      rw [decide_eq_true hq, h4.2]
      rfl
    refine hK (49, 89, o_M_leg2_1) (List.mem_of_getElem? (i := 1) rfl) _ _ _ _ ?_
    refine And.intro (fun z => absurd z (by decide)) (fun _ => ?_)
    refine And.intro (h6) ?_
    rw [hrc]
    have ok : wi ds (lsD (I 117) (I 119) r) 50000 = true → lgOk h (nI r) sh ds mk (lsD (I 117) (I 119) (nI r).toNatClampNeg) = true := by
      intro q
      unfold lgOk
      rw [hrc, h1, h2, h3, q]
      rfl
    refine And.intro (fun c1 => ?_) (fun c1 => ?_)
    · refine k89 (ok ?_)
      have hz : I 117 r = 0 := by
        rw [hle] at c1 ⊢
        rcases Nat.eq_zero_or_pos l with z | z
        · rw [z]; rfl
        · exact absurd c1 (nI_nle0 z (by omega))
      unfold lsD
      rw [if_pos hz]
      exact h4
    · have hz : ¬ I 117 r = 0 := fun z => c1 (by rw [z]; decide)
      have hl0 : 0 < l := by
        rcases Nat.eq_zero_or_pos l with z | z
        · exact absurd (by rw [hle, z]; rfl) hz
        · exact z
      refine And.intro (h6) ?_
      rw [hrc]
      have e : 4 * nI r + I 117 r - 1 = nI (4 * r + l - 1) := by
        rw [hle, e4]
        exact nI_sub (b := 1) (by omega)
      have els : lsD (I 117) (I 119) r = I 119 (4 * r + l - 1) := by
        unfold lsD
        rw [if_neg hz, hle, hlc]
      refine And.intro (by rw [e]; exact inn_nI (by omega) (by decide)) ?_
      rw [e, nI_clamp (show 4 * r + l - 1 < 2 ^ 31 by omega)]
      refine And.intro (fun c2 => ?_) (fun c2 => ?_)
      · refine k89 (ok ?_)
        rw [els]
        exact hw0 _ (by rw [← els]; exact hD') c2
      · have hno : lgOk h (nI r) sh ds mk (lsD (I 117) (I 119) r) = false := by
          unfold lgOk
          rw [els]
          unfold wi
          rw [decide_eq_false c2]
          simp
        rw [hno]
        exact And.intro rfl (And.intro rfl rfl)
  refine hK (0, 49, o_M_leg2_0) (List.mem_of_getElem? (i := 0) rfl) _ _ _ _ ?_
  refine call_eq (c_M_isRoute g d I D rt) ?_
  refine And.intro (fun c1 => ?_) (fun c1 => ?_)
  · exact k49n (by unfold lgOk; rw [bI_0.mp c1]; rfl)
  have h1 := bI_n0.mp c1
  refine call_eq (c_M_isShoal g d I D sh) ?_
  have hix : wi sh 0 (I 12 33 - 1) = ix sh (nI h) := by rw [hH]; exact ix_wi (by omega)
  rw [hix]
  refine And.intro (fun c2 => ?_) (fun c2 => ?_)
  · exact k49n (by unfold lgOk; rw [bI_0.mp c2, Bool.and_false]; rfl)
  have h2 := bI_n0.mp c2
  refine call_eq (c_M_in g (d + 1) I D ds 0 50000) ?_
  refine And.intro (fun c3 => ?_) (fun c3 => ?_)
  · refine k49n ?_
    obtain ⟨r, hr, rfl⟩ := wi_nI (m := 5) (by decide) h1
    have hD' := hD r (by omega)
    unfold lgOk
    rw [nI_clamp (show r < 2 ^ 31 by omega)]
    have : wi ds (lsD (I 117) (I 119) r) 50000 = false := by
      have h3 := bI_0.mp c3
      unfold wi at h3 ⊢
      by_cases q1 : ds ≤ 50000
      · rw [decide_eq_true q1, Bool.and_true] at h3
        have q2 := of_decide_eq_false h3
        rw [i32_le, show ((0 : Int32)).toInt = 0 by decide] at q2
        rw [decide_eq_false (by rw [i32_le]; omega)]
        rfl
      · rw [decide_eq_false q1, Bool.and_false]
    rw [this, Bool.and_false]
  have h3 := bI_n0.mp c3
  refine call_eq (c_M_isNoFloat g (d + 1) I D mk) ?_
  refine And.intro (fun c4 => ?_) (fun c4 => ?_)
  · exact k49 h1 h2 (by unfold mkB; rw [bI_n0.mp c4]; simp) h3
  have h4 := bI_0.mp c4
  refine And.intro (sn_of (fun z => by rw [h4] at z; cases z)) ?_
  refine And.intro (fun c5 => ?_) (fun c5 => ?_)
  · have c5 := (mk_f h4).mp c5
    refine k49n ?_
    unfold lgOk mkB
    rw [h4, decide_eq_false (fun z => c5 (Or.inl z)), decide_eq_false (fun z => c5 (Or.inr z))]
    simp
  · refine k49 h1 h2 ?_ h3
    have c5 := fun z => c5 ((mk_f h4).mpr z)
    unfold mkB
    by_cases q : 0 ≤ mk
    · rw [decide_eq_true q]; rfl
    · by_cases q2 : mk &&& 2147483647 = 0
      · rw [decide_eq_true q2]; simp
      · exact absurd (fun z => z.elim q q2) c5
end S64
