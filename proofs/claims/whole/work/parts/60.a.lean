section S60
variable (g : Gp) (d : Nat) (I : MI) (D : MD)
abbrev askM (I : MI) (w : Int32) : Nat → Int32 → AskR := askF (I 103) (I 104) (I 105) (I 106) (fun j => I 107 (2 * j)) (fun j => I 107 (2 * j + 1)) w
theorem c_M_keelOf (T : Tr) (hT : T.1 ≤ 100) (j : Nat) (hj : j < 40) (sc : MI) : Con g SHc (d + 1) 208 [.ref 12, .int (nI j)] (ovX (trM I T) sc) D (EqP none (ovX (trM I (begsT T (keelB (I 103 j)))) (up2 sc 12 62 (keelV (I 103 j) (I 106 j)))) D) := by
  refine Con.mk (LV := v_M_keelOf) k_M_keelOf (Nat.le_of_ble_eq_true rfl) (fun K hK => ?_)
  refine hK (0, 98, o_M_keelOf_0) (List.mem_of_getElem? (i := 0) rfl) _ _ _ _ ?_
  have hjc : (nI j).toNatClampNeg = j := nI_clamp (by omega)
  have h40 : inn (nI j) 40 := inn_nI hj (by decide)
  have b1 : ∀ b, (begT T b).1 ≤ 100 := fun b => begT_le hT b
  unfold keelV keelB
  refine And.intro (h40) ?_
  rw [hjc]
  refine And.intro (fun c1 => ?_) (fun c1 => ?_)
  · have c1 : ¬ I 103 j = 0 := c1
    rw [if_neg c1, if_neg c1]
    refine And.intro (fun c2 => ?_) (fun c2 => ?_)
    · have c2 : ¬ I 103 j = 2 := c2
      rw [if_neg c2, if_neg c2]
      refine And.intro (fun c3 => ?_) (fun c3 => ?_)
      · have c3 : ¬ I 103 j = 3 := c3
        rw [if_neg c3, if_neg c3]
        refine call_eq (c_M_begin g d I D T hT 20 sc) ?_
        exact And.intro rfl (And.intro (ov_up2 _ _ _ _ _ rfl) rfl)
      · have c3 : I 103 j = 3 := c3
        rw [if_pos c3, if_pos c3]
        refine call_eq (c_M_begin g d I D T hT 23 sc) ?_
        refine call_eq (c_M_begin g d I D (begT T 23) (b1 _) 20 sc) ?_
        exact And.intro rfl (And.intro (ov_up2 _ _ _ _ _ rfl) rfl)
    · have c2 : I 103 j = 2 := c2
      rw [if_pos c2, if_pos c2]
      refine call_eq (c_M_begin g d I D T hT 22 sc) ?_
      refine call_eq (c_M_begin g d I D (begT T 22) (b1 _) 21 sc) ?_
      refine And.intro (h40) ?_
      rw [hjc]
      exact And.intro rfl (And.intro (ov_up2 _ _ _ _ _ rfl) rfl)
  · have c1 : I 103 j = 0 := c1
    rw [if_pos c1, if_pos c1]
    refine call_eq (c_M_begin g d I D T hT 21 sc) ?_
    exact And.intro rfl (And.intro (ov_up2 _ _ _ _ _ rfl) rfl)
theorem c_M_needOf (T : Tr) (hT : T.1 ≤ 100) (j : Nat) (hj : j < 40) (sc : MI) : Con g SHc (d + 2) 207 [.ref 12, .int (nI j)] (ovX (trM I T) sc) D (EqP none (ovX (trM I (begsT T (needB (I 103 j)))) (up2 sc 12 62 (needV (I 103 j) (I 104 j) (I 106 j)))) D) := by
  refine Con.mk (LV := v_M_needOf) k_M_needOf (Nat.le_of_ble_eq_true rfl) (fun K hK => ?_)
  refine hK (0, 80, o_M_needOf_0) (List.mem_of_getElem? (i := 0) rfl) _ _ _ _ ?_
  have hjc : (nI j).toNatClampNeg = j := nI_clamp (by omega)
  have h40 : inn (nI j) 40 := inn_nI hj (by decide)
  have b1 : ∀ b, (begT T b).1 ≤ 100 := fun b => begT_le hT b
  have b2 : ∀ b c, (begT (begT T b) c).1 ≤ 100 := fun b c => begT_le (b1 b) c
  have ev : ∀ T' v, ovX (trM I T') (up2 sc 12 62 v) 12 62 = v := by
    intro T' v
    show up2 sc 12 62 v 12 62 = v
    rw [up2_at]
  unfold needV needB
  have yes : (I 103 j = 0 ∨ I 103 j = 2) → wp SHc none (retP (EqP none (ovX (trM I (begsT T (if I 103 j = 0 ∨ I 103 j = 2 then 11 :: 10 :: keelB (I 103 j) else 10 :: keelB (I 103 j)))) (up2 sc 12 62 (if I 103 j = 0 ∨ I 103 j = 2 then I 104 j + keelV (I 103 j) (I 106 j) + I 104 j / 10 else I 104 j + keelV (I 103 j) (I 106 j)))) D)) (CaD g SHc (d + 2)) v_M_needOf K 80 o_M_needOf_0 (some 24) (lv_args 0 [.ref 12, .int (nI j)]) [.int 1] (ovX (trM I T) sc) D := by
    intro c
    rw [if_pos c, if_pos c]
    refine And.intro (fun z => absurd z (by decide)) (fun _ => ?_)
    refine call_eq (c_M_begin g (d + 1) I D T hT 11 sc) ?_
    refine call_eq (c_M_begin g (d + 1) I D (begT T 11) (b1 _) 10 sc) ?_
    refine call_eq (c_M_keelOf g d I D (begT (begT T 11) 10) (b2 _ _) j hj sc) ?_
    refine And.intro (h40) ?_
    refine And.intro (fun z => absurd z (by decide)) (fun _ => ?_)
    refine And.intro (h40) ?_
    refine And.intro (by decide) ?_
    rw [hjc, ev]
    refine And.intro rfl (And.intro ?_ rfl)
    rw [ov_up2 _ _ _ _ _ rfl, up2_up2]
    rfl
  refine And.intro (h40) ?_
  rw [hjc]
  refine And.intro (fun c1 => ?_) (fun c1 => ?_)
  · exact yes (Or.inl c1)
  refine And.intro (h40) ?_
  rw [hjc]
  refine And.intro (fun c2 => ?_) (fun c2 => ?_)
  · have c : ¬ (I 103 j = 0 ∨ I 103 j = 2) := fun z => z.elim c1 c2
    rw [if_neg c, if_neg c]
    refine And.intro (fun _ => ?_) (fun z => absurd rfl z)
    refine call_eq (c_M_begin g (d + 1) I D T hT 10 sc) ?_
    refine call_eq (c_M_keelOf g d I D (begT T 10) (b1 _) j hj sc) ?_
    refine And.intro (h40) ?_
    refine And.intro (fun _ => ?_) (fun z => absurd rfl z)
    rw [hjc, ev]
    refine And.intro rfl (And.intro ?_ rfl)
    rw [ov_up2 _ _ _ _ _ rfl, up2_up2]
    rw [show ∀ x : Int32, x + 0 = x from fun x => Int32.add_zero x]
    rfl
  · exact yes (Or.inr c2)
theorem c_M_paceOf (T : Tr) (hT : T.1 ≤ 100) (j : Nat) (hj : j < 40) (sc : MI) : Con g SHc (d + 1) 209 [.ref 12, .int (nI j)] (ovX (trM I T) sc) D (EqP (some (.int (paceF (I 103 j) (I 106 j)))) (ovX (trM I (begsT T (paceB (I 103 j)))) (if paceF (I 103 j) (I 106 j) = 0 then up2 sc 12 62 (paceV (I 103 j) (I 105 j) (I 106 j)) else sc)) D) := by
  refine Con.mk (LV := v_M_paceOf) k_M_paceOf (Nat.le_of_ble_eq_true rfl) (fun K hK => ?_)
  refine hK (0, 70, o_M_paceOf_0) (List.mem_of_getElem? (i := 0) rfl) _ _ _ _ ?_
  have hjc : (nI j).toNatClampNeg = j := nI_clamp (by omega)
  have h40 : inn (nI j) 40 := inn_nI hj (by decide)
  have b1 : ∀ b, (begT T b).1 ≤ 100 := fun b => begT_le hT b
  unfold paceV paceB
  refine And.intro (h40) ?_
  rw [hjc]
  refine And.intro (fun c => ?_) (fun c => ?_)
  · have c : I 103 j = 2 := c
    rw [if_pos c, if_pos c]
    refine call_eq (c_M_begin g d I D T hT 31 sc) ?_
    refine call_eq (c_M_begin g d I D (begT T 31) (b1 _) 30 sc) ?_
    refine And.intro (h40) ?_
    rw [hjc]
    refine And.intro (fun c2 => ?_) (fun c2 => ?_)
    · have c2 : ¬ I 106 j = 0 := c2
      have hf : paceF (I 103 j) (I 106 j) = 0 := by unfold paceF; rw [if_neg (fun z => c2 z.2)]
      rw [hf, if_neg c2, if_pos rfl]
      refine And.intro (h40) ?_
      refine And.intro (h40) ?_
      rw [hjc]
      refine And.intro (c2) ?_
      exact And.intro rfl (And.intro (ov_up2 _ _ _ _ _ rfl) rfl)
    · have c2 : I 106 j = 0 := c2
      have hf : paceF (I 103 j) (I 106 j) = 4 := by unfold paceF; rw [if_pos ⟨c, c2⟩]
      rw [hf, if_pos c2, if_neg (by decide)]
      exact And.intro rfl (And.intro rfl rfl)
  · have c : ¬ I 103 j = 2 := c
    have hf : paceF (I 103 j) (I 106 j) = 0 := by unfold paceF; rw [if_neg (fun z => c z.1)]
    rw [hf, if_neg c, if_neg c, if_pos rfl]
    refine call_eq (c_M_begin g d I D T hT 30 sc) ?_
    refine And.intro (h40) ?_
    rw [hjc]
    exact And.intro rfl (And.intro (ov_up2 _ _ _ _ _ rfl) rfl)
theorem c_M_patienceOf (T : Tr) (hT : T.1 ≤ 100) (j : Nat) (hj : j < 40) (sc : MI) : Con g SHc (d + 1) 210 [.ref 12, .int (nI j)] (ovX (trM I T) sc) D (EqP none (ovX (trM I (begsT T (patB (I 103 j)))) (up2 sc 12 62 (patV (I 103 j) (I 106 j)))) D) := by
  refine Con.mk (LV := v_M_patienceOf) k_M_patienceOf (Nat.le_of_ble_eq_true rfl) (fun K hK => ?_)
  refine hK (0, 76, o_M_patienceOf_0) (List.mem_of_getElem? (i := 0) rfl) _ _ _ _ ?_
  have hjc : (nI j).toNatClampNeg = j := nI_clamp (by omega)
  have h40 : inn (nI j) 40 := inn_nI hj (by decide)
  have b1 : ∀ b, (begT T b).1 ≤ 100 := fun b => begT_le hT b
  unfold patV patB
  refine And.intro (h40) ?_
  rw [hjc]
  refine And.intro (fun c1 => ?_) (fun c1 => ?_)
  · have c1 : ¬ I 103 j = 1 := c1
    rw [if_neg c1, if_neg c1]
    refine And.intro (h40) ?_
    rw [hjc]
    refine And.intro (fun c2 => ?_) (fun c2 => ?_)
    · have c2 : ¬ I 103 j = 3 := c2
      rw [if_neg c2, if_neg c2]
      refine call_eq (c_M_begin g d I D T hT 40 sc) ?_
      exact And.intro rfl (And.intro (ov_up2 _ _ _ _ _ rfl) rfl)
    · have c2 : I 103 j = 3 := c2
      rw [if_pos c2, if_pos c2]
      refine call_eq (c_M_begin g d I D T hT 42 sc) ?_
      refine call_eq (c_M_begin g d I D (begT T 42) (b1 _) 41 sc) ?_
      refine And.intro (h40) ?_
      rw [hjc]
      exact And.intro rfl (And.intro (ov_up2 _ _ _ _ _ rfl) rfl)
  · have c1 : I 103 j = 1 := c1
    rw [if_pos c1, if_pos c1]
    refine call_eq (c_M_begin g d I D T hT 41 sc) ?_
    exact And.intro rfl (And.intro (ov_up2 _ _ _ _ _ rfl) rfl)
theorem c_M_asksOne (T : Tr) (hT : T.1 ≤ 100) (j : Nat) (hj : j < 40) (w : Int32) (sc : MI) (r : AskR) (hr : r = ownA w (I 103 j) (I 104 j) (I 105 j) (I 106 j)) : Con g SHc (d + 3) 206 [.ref 12, .int (nI j), .int w] (ovX (trM I T) sc) D (EqP (some (.int r.1)) (ovX (trM I (begsT T r.2.2)) (if r.1 = 0 then up2 sc 12 62 r.2.1 else sc)) D) := by
  refine Con.mk (LV := v_M_asksOne) k_M_asksOne (Nat.le_of_ble_eq_true rfl) (fun K hK => ?_)
  refine hK (0, 101, o_M_asksOne_0) (List.mem_of_getElem? (i := 0) rfl) _ _ _ _ ?_
  have hjc : (nI j).toNatClampNeg = j := nI_clamp (by omega)
  have h40 : inn (nI j) 40 := inn_nI hj (by decide)
  unfold ownA at hr
  refine And.intro (fun c => ?_) (And.intro (fun c => ?_) (And.intro (fun c => ?_) (And.intro (fun c => ?_) (fun c => ?_))))
  · have c : w = 0 := Int32.toInt_inj.mp c
    rw [if_pos c] at hr
    rw [hr]
    refine call_eq (c_M_needOf g d I D T hT j (by omega) sc) ?_
    exact And.intro rfl (And.intro rfl rfl)
  · have c : w = 1 := Int32.toInt_inj.mp c
    rw [if_neg (by rw [c]; decide), if_pos c] at hr
    rw [hr]
    refine call_eq (c_M_keelOf g (d + 1) I D T hT j (by omega) sc) ?_
    exact And.intro rfl (And.intro rfl rfl)
  · have c : w = 2 := Int32.toInt_inj.mp c
    rw [if_neg (by rw [c]; decide), if_neg (by rw [c]; decide), if_pos c] at hr
    rw [hr]
    refine call_eq (c_M_paceOf g (d + 1) I D T hT j (by omega) sc) ?_
    exact And.intro rfl (And.intro rfl rfl)
  · have c : w = 3 := Int32.toInt_inj.mp c
    rw [if_neg (by rw [c]; decide), if_neg (by rw [c]; decide), if_neg (by rw [c]; decide), if_pos c] at hr
    rw [hr]
    refine call_eq (c_M_patienceOf g (d + 1) I D T hT j (by omega) sc) ?_
    exact And.intro rfl (And.intro rfl rfl)
  · have n0 : ¬ w = 0 := fun z => by rw [z] at c; exact absurd c (by decide)
    have n1 : ¬ w = 1 := fun z => by rw [z] at c; exact absurd c (by decide)
    have n2 : ¬ w = 2 := fun z => by rw [z] at c; exact absurd c (by decide)
    have n3 : ¬ w = 3 := fun z => by rw [z] at c; exact absurd c (by decide)
    rw [if_neg n0, if_neg n1, if_neg n2, if_neg n3] at hr
    rw [hr]
    unfold dayV dayB
    refine And.intro (h40) ?_
    rw [hjc]
    refine And.intro (fun c4 => ?_) (fun c4 => ?_)
    · have c4 : ¬ I 103 j = 2 := c4
      rw [if_neg c4, if_neg c4]
      refine call_eq (c_M_begin g (d + 2) I D T hT 50 sc) ?_
      refine And.intro (h40) ?_
      rw [hjc]
      refine And.intro (fun _ => ?_) (fun z => absurd z c4)
      exact And.intro rfl (And.intro (ov_up2 _ _ _ _ _ rfl) rfl)
    · have c4 : I 103 j = 2 := c4
      rw [if_pos c4, if_pos c4]
      refine call_eq (c_M_begin g (d + 2) I D T hT 51 sc) ?_
      refine And.intro (h40) ?_
      rw [hjc]
      refine And.intro (fun z => absurd c4 z) (fun _ => ?_)
      exact And.intro rfl (And.intro (ov_up2 _ _ _ _ _ rfl) rfl)
theorem c_M_joined (w a b : Int32) : Con g SHc d 204 [.int w, .int a, .int b] I D (EqP (some (.int (joinV w a b))) I D) := by
  refine Con.mk (LV := v_M_joined) k_M_joined (Nat.le_of_ble_eq_true rfl) (fun K hK => ?_)
  refine hK (0, 62, o_M_joined_0) (List.mem_of_getElem? (i := 0) rfl) _ _ _ _ ?_
  unfold joinV
  refine And.intro (fun c => ?_) (And.intro (fun c => ?_) (And.intro (fun c => ?_) (And.intro (fun c => ?_) (fun c => ?_))))
  · have c : w = 0 := Int32.toInt_inj.mp c
    rw [if_pos c]
    refine And.intro (fun c2 => ?_) (fun c2 => ?_)
    · refine And.intro ?_ (And.intro rfl rfl)
      by_cases q : a < b
      · rw [if_pos q]
      · rw [if_neg q, Int32.le_antisymm c2 (i32_nlt.mp q)]
    · rw [if_neg (fun z => c2 (Int32.le_of_lt z))]
      exact And.intro rfl (And.intro rfl rfl)
  · have c : w = 1 := Int32.toInt_inj.mp c
    rw [if_neg (show ¬ w = 0 by rw [c]; decide), if_neg (show ¬ w = 2 by rw [c]; decide), if_neg (show ¬ w = 3 by rw [c]; decide)]
    exact And.intro rfl (And.intro rfl rfl)
  · have c : w = 2 := Int32.toInt_inj.mp c
    rw [if_neg (show ¬ w = 0 by rw [c]; decide), if_pos c]
    refine And.intro (fun c2 => ?_) (fun c2 => ?_)
    · refine And.intro ?_ (And.intro rfl rfl)
      by_cases q : b < a
      · rw [if_pos q]
      · rw [if_neg q, Int32.le_antisymm c2 (i32_nlt.mp q)]
    · rw [if_neg (fun z => c2 (Int32.le_of_lt z))]
      exact And.intro rfl (And.intro rfl rfl)
  · have c : w = 3 := Int32.toInt_inj.mp c
    rw [if_neg (show ¬ w = 0 by rw [c]; decide), if_neg (show ¬ w = 2 by rw [c]; decide), if_pos c]
    refine And.intro (by decide) ?_
    exact And.intro rfl (And.intro rfl rfl)
  · have n0 : ¬ w = 0 := fun z => by rw [z] at c; exact absurd c (by decide)
    have n2 : ¬ w = 2 := fun z => by rw [z] at c; exact absurd c (by decide)
    have n3 : ¬ w = 3 := fun z => by rw [z] at c; exact absurd c (by decide)
    rw [if_neg n0, if_neg n2, if_neg n3]
    exact And.intro rfl (And.intro rfl rfl)
end S60
