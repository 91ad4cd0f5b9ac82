/-! holds -/
def tellAM (a : Int32) (I : MI) : MI := if a < -10 then tellM (-10 - a) I else I
theorem sub_self2 (a : Int32) : -10 - (-10 - a) = a := by
  rw [Int32.sub_eq_add_neg, Int32.neg_sub, Int32.sub_eq_add_neg, ← Int32.add_assoc, Int32.add_comm (-10) a, Int32.add_assoc, Int32.add_right_neg, Int32.add_zero]
def hlOk (ms : Nat) (s rt mi : Int32) : Bool := ix s (nI ms) && wi rt 0 5 && wi mi 0 43199
section S71
variable (g : Gp) (d : Nat) (I : MI) (D : MD)
theorem tellA_ov (a : Int32) (sc : MI) : tellA a (ovX I sc) = ovX (tellA a I) sc := by
  unfold tellA
  split
  · exact tellX_ov _ _ _
  · rfl
theorem tellAM_ov (a : Int32) (sc : MI) : tellAM a (ovX I sc) = ovX (tellAM a I) sc := by
  unfold tellAM
  split
  · exact tellM_ov _ _ _
  · rfl
theorem c_X_holds {n m tk fd b h ms : Nat} (hB : KX I n m tk fd b h) (hR : RX I) (hW : WX I) (hms : ms ≤ 40) (hS : I 6 9 = nI ms) (hP : shOk (I 42) (I 46) (I 47) ms) (s rt mi : Int32) (sc : MI) (sd : MD) : Con g SHc (d + 15) 115 [.ref 0, .int s, .int rt, .int mi] (ovX I sc) (ovD D sd) (Sc (some (.int (sel3 (hlOk ms s rt mi) (decide (3000 ≤ I 1 0)) false (-2) (-4) 0 (minX I n m tk fd b rt.toNatClampNeg s mi (I 0 11))))) (sel3 (hlOk ms s rt mi) (decide (3000 ≤ I 1 0)) false I I I (tellA (minX I n m tk fd b rt.toNatClampNeg s mi (I 0 11)) (trX I (begsT (0, I 49) (bdX I s))))) D) := by
  refine Con.mk (LV := v_X_holds) k_X_holds (Nat.le_of_ble_eq_true rfl) (fun K hK => ?_)
  refine hK (0, 61, o_X_holds_0) (List.mem_of_getElem? (i := 0) rfl) _ _ _ _ ?_
  unfold hlOk
  refine call_eq (c_X_isShip g (d + 14) (ovX I sc) (ovD D sd) s) ?_
  have hix : (decide (0 ≤ s) && decide (s < ovX I sc 6 9)) = ix s (nI ms) := by rw [show ovX I sc 6 9 = nI ms from hS]; rfl
  rw [hix]
  refine And.intro (fun c1 => ?_) (fun c1 => ?_)
  · rw [bI_0.mp c1]
    exact sc_of
  have h1 := bI_n0.mp c1
  rw [h1]
  refine call_eq (c_X_isRoute g (d + 14) (ovX I sc) (ovD D sd) rt) ?_
  refine And.intro (fun c2 => ?_) (fun c2 => ?_)
  · rw [bI_0.mp c2]
    exact sc_of
  have h2 := bI_n0.mp c2
  rw [h2]
  refine call_eq (c_X_isMinute g (d + 14) (ovX I sc) (ovD D sd) mi) ?_
  refine And.intro (fun c3 => ?_) (fun c3 => ?_)
  · have h3 := bI_n0.mp c3
    rw [h3]
    obtain ⟨r, hr, rfl⟩ := wi_nI (m := 5) (by decide) h2
    obtain ⟨q, hq, rfl⟩ := wi_nI (m := 43199) (by decide) h3
    rw [nI_clamp (show r < 2 ^ 31 by omega)]
    refine call_eq (c_X_areSpent g (d + 14) (ovX I sc) (ovD D sd)) ?_
    refine And.intro (fun c4 => ?_) (fun c4 => ?_)
    · rw [decide_eq_false (show ¬ 3000 ≤ I 1 0 from of_decide_eq_false (bI_0.mp c4))]
      have hC := c_X_tryMinute g d I D hB hR hW hms hP s h1 r q (by omega) (by omega) (I 0 11) (0, I 49) (Nat.zero_le _) sc sd
      rw [← trX_0, ← ov_n2 _ _ _ _ _ rfl] at hC
      refine call_of hC ?_
      rintro o J E ⟨sc', sd', rfl, rfl, rfl, -⟩
      exact sc_of
    · rw [decide_eq_true (show 3000 ≤ I 1 0 from of_decide_eq_true (bI_n0.mp c4))]
      exact sc_of
  · rw [bI_0.mp c3]
    exact sc_of
theorem c_M_holds {n m tk fd b h ms : Nat} (hB : KM I n m tk fd b h) (hR : RM I) (hW : WM I) (hms : ms ≤ 40) (hS : I 12 49 = nI ms) (rk : Nat → Nat) (hP : rkOk (I 103) (fun j => I 107 (2 * j)) (fun j => I 107 (2 * j + 1)) rk ms) (s rt mi : Int32) (sc : MI) (sd : MD) : Con g SHc (d + 15) 230 [.ref 12, .int s, .int rt, .int mi] (ovX I sc) (ovD D sd) (Sc (some (.int (sel3 (hlOk ms s rt mi) (decide (3000 ≤ I 12 2)) false (-2) (-4) 0 (minM I n m tk fd b rt.toNatClampNeg s mi)))) (sel3 (hlOk ms s rt mi) (decide (3000 ≤ I 12 2)) false I I I (tellAM (minM I n m tk fd b rt.toNatClampNeg s mi) (trM I (begsT (0, I 109) (bdM I s))))) D) := by
  refine Con.mk (LV := v_M_holds) k_M_holds (Nat.le_of_ble_eq_true rfl) (fun K hK => ?_)
  refine hK (0, 71, o_M_holds_0) (List.mem_of_getElem? (i := 0) rfl) _ _ _ _ ?_
  unfold hlOk
  refine call_eq (c_M_isShip g (d + 13) (ovX I sc) (ovD D sd) s) ?_
  have hix : wi s 0 (ovX I sc 12 49 - 1) = ix s (nI ms) := by rw [show ovX I sc 12 49 = nI ms from hS]; exact ix_wi (by omega)
  rw [hix]
  refine And.intro (fun c1 => ?_) (fun c1 => ?_)
  · rw [bI_0.mp c1]
    exact sc_of
  have h1 := bI_n0.mp c1
  rw [h1]
  refine call_eq (c_M_isRoute g (d + 13) (ovX I sc) (ovD D sd) rt) ?_
  refine And.intro (fun c2 => ?_) (fun c2 => ?_)
  · rw [bI_0.mp c2]
    exact sc_of
  have h2 := bI_n0.mp c2
  rw [h2]
  refine call_eq (c_M_isMinute g (d + 13) (ovX I sc) (ovD D sd) mi) ?_
  refine And.intro (fun c3 => ?_) (fun c3 => ?_)
  · have h3 := bI_n0.mp c3
    rw [h3]
    obtain ⟨r, hr, rfl⟩ := wi_nI (m := 5) (by decide) h2
    obtain ⟨q, hq, rfl⟩ := wi_nI (m := 43199) (by decide) h3
    rw [nI_clamp (show r < 2 ^ 31 by omega)]
    refine call_eq (c_M_isFull g (d + 14) (ovX I sc) (ovD D sd)) ?_
    refine And.intro (fun c4 => ?_) (fun c4 => ?_)
    · rw [decide_eq_false (show ¬ 3000 ≤ I 12 2 from of_decide_eq_false (bI_0.mp c4))]
      have hC := c_M_looks g d I D hB hR hW hms rk hP s h1 r q (by omega) (by omega) (0, I 109) (Nat.zero_le _) sc sd
      rw [← trM_0, ← ov_n2 _ _ _ _ _ rfl] at hC
      generalize minM I n m tk fd b r s (nI q) = a at hC ⊢
      refine call_of hC ?_
      rintro o J E ⟨sc', sd', rfl, rfl, rfl, -⟩
      refine And.intro (fun c5 => ?_) (fun c5 => ?_)
      · unfold tellAM
        rw [if_neg (i32_nlt.mpr c5)]
        exact sc_of
      · unfold tellAM
        rw [if_pos (i32_nle.mp c5)]
        refine call_eq (c_M_fails g (d + 14) _ (ovD D sd') (-10 - a)) ?_
        rw [tellM_ov, sub_self2]
        exact sc_of
    · rw [decide_eq_true (show 3000 ≤ I 12 2 from of_decide_eq_true (bI_n0.mp c4))]
      exact sc_of
  · rw [bI_0.mp c3]
    exact sc_of
/-! normal forms: FINDINGS, WINDOWS -/
abbrev Fi : Type := Int32 × Int32
def telF (a : Int32) (F : Fi) : Fi := if a < -10 then (F.1 + 1, -10 - a) else F
def fiX (I : MI) (F : Fi) : MI := up2 (up2 I 1 0 F.1) 1 1 F.2
def fiM (I : MI) (F : Fi) : MI := up2 (up2 I 12 1 F.2) 12 2 F.1
/-- size, first, last, wrong minutes, the last wrong, whether one is open -/
abbrev Wn : Type := Nat × (Nat → Int32) × (Nat → Int32) × Int32 × Int32 × Bool
def wnX (I : MI) (W : Wn) : MI := up2 (up2 (up2 (up2 (upc (upc I 60 W.2.1) 61 W.2.2.1) 10 2 (nI W.1)) 10 3 W.2.2.2.1) 10 4 W.2.2.2.2.1) 10 5 (bI W.2.2.2.2.2)
def wnM (I : MI) (W : Wn) : MI := up2 (up2 (up2 (upc (upc I 121 W.2.1) 122 W.2.2.1) 12 73 (nI W.1)) 12 76 W.2.2.2.1) 12 77 W.2.2.2.2.1
theorem tel_nf (F : Fi) (W : Wn) (T : Tr) (a : Int32) : tellA a (trX (wnX (fiX I F) W) T) = trX (wnX (fiX I (telF a F)) W) T := by
  unfold tellA telF
  split
  · unfold tellX trX wnX fiX
    funext x y
    simp only [up2_at2, upc_at]
    by_cases h1 : x = 1
    · subst h1
      by_cases h2 : y = 0
      · subst h2; simp
      · by_cases h3 : y = 1
        · subst h3; simp
        · simp [h2, h3]
    · simp [h1]
  · rfl
theorem telM_nf (F : Fi) (W : Wn) (T : Tr) (f : Int32) : tellM f (trM (wnM (fiM I F) W) T) = trM (wnM (fiM I (F.1 + 1, f)) W) T := by
  unfold tellM trM wnM fiM
  funext x y
  simp only [up2_at2, upc_at]
  by_cases h1 : x = 12
  · subst h1
    by_cases h2 : y = 1
    · subst h2; simp
    · by_cases h3 : y = 2
      · subst h3; simp
      · simp [h2, h3]
  · simp [h1]
def wkF (W : Wn) (t a : Int32) : Wn := if a = 1 then (if W.2.2.2.2.2 = true then (W.1, W.2.1, up1 W.2.2.1 (W.1 - 1) t, W.2.2.2.1, W.2.2.2.2.1, true) else if W.1 < 20 then (W.1 + 1, up1 W.2.1 W.1 t, up1 W.2.2.1 W.1 t, W.2.2.2.1, W.2.2.2.2.1, true) else W) else if a < -10 then (W.1, W.2.1, W.2.2.1, W.2.2.2.1 + 1, -10 - a, false) else (W.1, W.2.1, W.2.2.1, W.2.2.2.1, W.2.2.2.2.1, false)
theorem wkF_le {W : Wn} (h : W.1 ≤ 20) (t a : Int32) : (wkF W t a).1 ≤ 20 := by
  unfold wkF
  split
  · split
    · exact h
    · split
      next c => exact c
      next => exact h
  · split
    · exact h
    · exact h
theorem wkF_op {W : Wn} (h : W.2.2.2.2.2 = true → 0 < W.1) (t a : Int32) : (wkF W t a).2.2.2.2.2 = true → 0 < (wkF W t a).1 := by
  unfold wkF
  split
  · split
    next c => exact fun _ => h c
    next =>
      split
      · exact fun _ => Nat.succ_pos _
      · exact h
  · split
    · exact fun z => absurd (show false = true from z) (by decide)
    · exact fun z => absurd (show false = true from z) (by decide)
theorem c_X_take (W : Wn) (h20 : W.1 ≤ 20) (hop : W.2.2.2.2.2 = true → 0 < W.1) (t a : Int32) (T : Tr) (sc : MI) : Con g SHc d 121 [.ref 10, .int t, .int a] (ovX (trX (wnX I W) T) sc) D (EqP none (ovX (trX (wnX I (wkF W t a)) T) sc) D) := by
  obtain ⟨n, G, H, wr, lw, op⟩ := W
  dsimp only at h20 hop
  have e1 : ovX (trX (wnX I (n, G, H, wr, lw, op)) T) sc 10 2 = nI n := rfl
  have e2 : ovX (trX (wnX I (n, G, H, wr, lw, op)) T) sc 10 5 = bI op := rfl
  have nf : ∀ (n' : Nat) (G' H' : Nat → Int32) (wr' lw' : Int32) (op' : Bool), trX (wnX I (n', G', H', wr', lw', op')) T = up2 (upc (wnX I (n', G', H', wr', lw', op')) 49 T.2) 6 8 (nI T.1) := fun _ _ _ _ _ _ => rfl
  have sOp : ∀ (b : Bool) (wr' lw' : Int32) (n' : Nat) (G' H' : Nat → Int32) (op' : Bool), up2 (trX (wnX I (n', G', H', wr', lw', op')) T) 10 5 (bI b) = trX (wnX I (n', G', H', wr', lw', b)) T := by
    intro b wr' lw' n' G' H' op'
    unfold trX wnX
    funext x y
    simp only [up2_at2, upc_at]
    by_cases h1 : x = 10 ∧ y = 5
    · obtain ⟨rfl, rfl⟩ := h1; simp
    · simp [h1]
  have sWr : ∀ (wr' lw' v : Int32) (n' : Nat) (G' H' : Nat → Int32) (op' : Bool), up2 (trX (wnX I (n', G', H', wr', lw', op')) T) 10 3 v = trX (wnX I (n', G', H', v, lw', op')) T := by
    intro wr' lw' v n' G' H' op'
    unfold trX wnX
    funext x y
    simp only [up2_at2, upc_at]
    by_cases h1 : x = 10 ∧ y = 3
    · obtain ⟨rfl, rfl⟩ := h1; simp
    · simp [h1]
  have sLw : ∀ (wr' lw' v : Int32) (n' : Nat) (G' H' : Nat → Int32) (op' : Bool), up2 (trX (wnX I (n', G', H', wr', lw', op')) T) 10 4 v = trX (wnX I (n', G', H', wr', v, op')) T := by
    intro wr' lw' v n' G' H' op'
    unfold trX wnX
    funext x y
    simp only [up2_at2, upc_at]
    by_cases h1 : x = 10 ∧ y = 4
    · obtain ⟨rfl, rfl⟩ := h1; simp
    · simp [h1]
  have sSz : ∀ (wr' lw' : Int32) (n' m' : Nat) (G' H' : Nat → Int32) (op' : Bool), up2 (trX (wnX I (n', G', H', wr', lw', op')) T) 10 2 (nI m') = trX (wnX I (m', G', H', wr', lw', op')) T := by
    intro wr' lw' n' m' G' H' op'
    unfold trX wnX
    funext x y
    simp only [up2_at2, upc_at]
    by_cases h1 : x = 10 ∧ y = 2
    · obtain ⟨rfl, rfl⟩ := h1; simp
    · simp [h1]
  have sFi : ∀ (wr' lw' v : Int32) (n' j : Nat) (G' H' : Nat → Int32) (op' : Bool), up2 (trX (wnX I (n', G', H', wr', lw', op')) T) 60 j v = trX (wnX I (n', up1 G' j v, H', wr', lw', op')) T := by
    intro wr' lw' v n' j G' H' op'
    unfold trX wnX
    funext x y
    simp only [up2_at2, upc_at, up1]
    by_cases h1 : x = 60
    · subst h1; simp
    · simp [h1]
  have sLa : ∀ (wr' lw' v : Int32) (n' j : Nat) (G' H' : Nat → Int32) (op' : Bool), up2 (trX (wnX I (n', G', H', wr', lw', op')) T) 61 j v = trX (wnX I (n', G', up1 H' j v, wr', lw', op')) T := by
    intro wr' lw' v n' j G' H' op'
    unfold trX wnX
    funext x y
    simp only [up2_at2, upc_at, up1]
    by_cases h1 : x = 61
    · subst h1; simp
    · simp [h1]
  refine Con.mk (LV := v_Windows_take) k_Windows_take (Nat.le_of_ble_eq_true rfl) (fun K hK => ?_)
  refine hK (0, 104, o_Windows_take_0) (List.mem_of_getElem? (i := 0) rfl) _ _ _ _ ?_
  unfold wkF
  refine And.intro (fun c1 => ?_) (fun c1 => ?_)
  · refine And.intro (fun c2 => ?_) (fun c2 => ?_)
    · rw [if_pos c2]
      refine And.intro (fun c3 => ?_) (fun c3 => ?_)
      · rw [e2] at c3
        have h3 := bI_0.mp c3
        rw [if_neg (show ¬ op = true by rw [h3]; decide)]
        refine And.intro (fun c4 => ?_) (fun c4 => ?_)
        · rw [e1] at c4
          have h4 : ¬ n < 20 := fun z => absurd (show nI 20 ≤ nI n from c4) (nI_ge z (by omega))
          rw [if_neg h4]
          exact And.intro rfl (And.intro rfl rfl)
        · rw [e1] at c4
          have h4 : n < 20 := by
            rcases Nat.lt_or_ge n 20 with z | z
            · exact z
            · exact absurd (show nI 20 ≤ nI n from nI_le z (by omega)) c4
          rw [if_pos h4]
          have hin : inn (nI n) 20 := inn_nI h4 (by decide)
          refine And.intro (hin) ?_
          refine And.intro (hin) ?_
          refine And.intro (Or.inr rfl) (And.intro rfl (And.intro ?_ rfl))
          show up2 (up2 (up2 (up2 (ovX (trX (wnX I (n, G, H, wr, lw, op)) T) sc) 60 (nI n).toNatClampNeg t) 61 (nI n).toNatClampNeg t) 10 2 (nI n + 1)) 10 5 (bI true) = _
          rw [nI_clamp (show n < 2 ^ 31 by omega), nI_1, ov_n2 _ _ _ _ _ (by rfl), ov_n2 _ _ _ _ _ (by rfl), ov_n2 _ _ _ _ _ (by rfl), ov_n2 _ _ _ _ _ (by rfl), sFi, sLa, sSz, sOp]
      · rw [e2] at c3
        have h3 := bI_n0.mp c3
        rw [if_pos h3]
        have hn := hop h3
        have e3 : nI n - 1 = nI (n - 1) := nI_sub (b := 1) (by omega)
        refine And.intro (by rw [e1, e3]; exact inn_nI (by omega) (by decide)) ?_
        refine And.intro rfl (And.intro ?_ rfl)
        show up2 (ovX (trX (wnX I (n, G, H, wr, lw, op)) T) sc) 61 (nI n - 1).toNatClampNeg t = _
        rw [e3, nI_clamp (show n - 1 < 2 ^ 31 by omega), ov_n2 _ _ _ _ _ (by rfl), sLa, h3]
    · rw [if_neg c2, if_neg (i32_nlt.mpr c1)]
      refine And.intro (Or.inl rfl) (And.intro rfl (And.intro ?_ rfl))
      show up2 (ovX (trX (wnX I (n, G, H, wr, lw, op)) T) sc) 10 5 (bI false) = _
      rw [ov_n2 _ _ _ _ _ (by rfl), sOp]
  · have h1 := i32_nle.mp c1
    refine And.intro (fun c2 => ?_) (fun c2 => ?_)
    · rw [c2] at h1
      exact absurd h1 (by decide)
    · rw [if_neg c2, if_pos h1]
      refine And.intro (Or.inl rfl) (And.intro rfl (And.intro ?_ rfl))
      show up2 (up2 (up2 (ovX (trX (wnX I (n, G, H, wr, lw, op)) T) sc) 10 3 (wr + 1)) 10 4 (-10 - a)) 10 5 (bI false) = _
      rw [ov_n2 _ _ _ _ _ (by rfl), ov_n2 _ _ _ _ _ (by rfl), ov_n2 _ _ _ _ _ (by rfl), sWr, sLw, sOp]
end S71
