/-! spring, stream -/
theorem m1_le {c : Nat} (hc : c ≤ 40) : nI c - 1 ≤ nI (c - 1) := by
  rw [i32_le, i32_m1 (by omega), nI_toInt (by omega)]
  omega
theorem m1_nle {c i : Nat} (hc : c ≤ 40) (h : i < c - 1) : ¬ nI c - 1 ≤ nI i := by
  rw [i32_le, i32_m1 (by omega), nI_toInt (by omega)]
  omega
section S55
variable (g : Gp) (d : Nat) (I : MI) (D : MD)
abbrev spX (I : MI) (D : MD) (s : Nat) (gr : Bool) : Nat → Int32 × UInt64 := spF (fun i => !decide (I 38 (40 * s + i) = I 38 (40 * s + i + 1))) (fun i => rgX (D 39 (40 * s + i)) (D 39 (40 * s + i + 1))) gr
abbrev spM (I : MI) (D : MD) (s : Nat) (gr : Bool) : Nat → Int32 × UInt64 := spF (fun i => !decide (I 99 (40 * s + i) = I 99 (40 * s + i + 1))) (fun i => rgM (D 100 (40 * s + i)) (D 100 (40 * s + i + 1))) gr
set_option maxHeartbeats 1000000 in
theorem c_X_furthest (s c : Nat) (hs : s < 12) (hc : c ≤ 40) (hce : I 36 s = nI c) (hH : ∀ j, j < c → fb 300 (D 39 (40 * s + j))) (l : Int32) : Con g SHc (d + 1) 65 [.ref 5, .int (nI s), .int l] I D (EqP (some (.int (spX I D s (!decide (l = 0)) (c - 1)).1)) I D) := by
  refine Con.mk (LV := v_Waters_furthestRange) k_Waters_furthestRange (Nat.le_of_ble_eq_true rfl) (fun K hK => ?_)
  have hsc : (nI s).toNatClampNeg = s := nI_clamp (by omega)
  have hs12 : inn (nI s) 12 := inn_nI (by omega) (by decide)
  have loop : ∀ r i, i + r = c - 1 → K 8 [(0, .ref 5), (1, .int (nI s)), (2, .int l), (3, .int (spX I D s (!decide (l = 0)) i).1), (4, .double (spX I D s (!decide (l = 0)) i).2), (6, .int (nI i))] [] I D := by
    intro r
    induction r with
    | zero =>
      intro i hi
      have hi : i = c - 1 := by omega
      subst hi
      refine hK (8, 83, o_Waters_furthestRange_1) (List.mem_of_getElem? (i := 1) rfl) _ _ _ _ ?_
      refine And.intro (hs12) ?_
      refine And.intro (fun c1 => ?_) (fun c1 => ?_)
      · exact And.intro rfl (And.intro rfl rfl)
      · rw [hsc, hce] at c1
        exact absurd (m1_le hc) c1
    | succ r ih =>
      intro i hi
      have go := ih (i + 1) (by omega)
      have nxt : spX I D s (!decide (l = 0)) (i + 1) = if (!decide (I 38 (40 * s + i) = I 38 (40 * s + i + 1))) = true ∧ ((spX I D s (!decide (l = 0)) i).1 = -1 ∨ upB (!decide (l = 0)) (spX I D s (!decide (l = 0)) i).2 (rgX (D 39 (40 * s + i)) (D 39 (40 * s + i + 1))) = true) then (nI i, rgX (D 39 (40 * s + i)) (D 39 (40 * s + i + 1))) else spX I D s (!decide (l = 0)) i := rfl
      rw [nxt] at go
      generalize spX I D s (!decide (l = 0)) i = B at go ⊢
      rw [nI_succ] at go
      refine hK (8, 83, o_Waters_furthestRange_1) (List.mem_of_getElem? (i := 1) rfl) _ _ _ _ ?_
      refine And.intro (hs12) ?_
      refine And.intro (fun c1 => ?_) (fun c1 => ?_)
      · rw [hsc, hce] at c1
        exact absurd c1 (m1_nle hc (by omega))
      refine call_eq (c_X_hasR g (d) I D s i (by omega) (by omega)) ?_
      refine And.intro (fun c2 => ?_) (fun c2 => ?_)
      · rw [if_neg (fun z => by rw [bI_0.mp c2] at z; exact absurd z.1 (by decide))] at go
        exact go
      have h2 := bI_n0.mp c2
      refine call_eq (c_X_rgO g (d) I D s i (by omega) (by omega) (hH i (by omega)) (hH (i + 1) (by omega))) ?_
      generalize rgX (D 39 (40 * s + i)) (D 39 (40 * s + i + 1)) = R at go ⊢
      refine And.intro (fun c3 => ?_) (fun c3 => ?_)
      · rw [if_pos ⟨h2, Or.inl c3⟩] at go
        exact go
      refine And.intro (fun c4 => ?_) (fun c4 => ?_)
      · rw [decide_eq_true c4] at go
        refine And.intro (fun c5 => ?_) (fun c5 => ?_)
        · have : upB (!true) B.2 R = false := by
            show (!decide _) = false
            rw [decide_eq_true c5]
            rfl
          rw [if_neg (fun z => z.2.elim c3 (fun z => by rw [this] at z; exact absurd z (by decide)))] at go
          exact go
        · have : upB (!true) B.2 R = true := by
            show (!decide _) = true
            rw [decide_eq_false c5]
            rfl
          rw [if_pos ⟨h2, Or.inr this⟩] at go
          exact go
      · rw [decide_eq_false c4] at go
        refine And.intro (fun c5 => ?_) (fun c5 => ?_)
        · have : upB (!false) B.2 R = false := by
            show (!decide _) = false
            rw [decide_eq_true c5]
            rfl
          rw [if_neg (fun z => z.2.elim c3 (fun z => by rw [this] at z; exact absurd z (by decide)))] at go
          exact go
        · have : upB (!false) B.2 R = true := by
            show (!decide _) = true
            rw [decide_eq_false c5]
            rfl
          rw [if_pos ⟨h2, Or.inr this⟩] at go
          exact go
  refine hK (0, 8, o_Waters_furthestRange_0) (List.mem_of_getElem? (i := 0) rfl) _ _ _ _ ?_
  exact loop (c - 1) 0 (by omega)
theorem c_X_spring (hW : ∀ s, s < 12 → ∃ c, c ≤ 40 ∧ I 36 s = nI c) (hH : ∀ s c, s < 12 → I 36 s = nI c → ∀ j, j < c → fb 300 (D 39 (40 * s + j)) ∧ nz (D 39 (40 * s + j))) (s l : Int32) : Con g SHc (d + 2) 64 [.ref 0, .int s, .int l] I D (EqP (some (.int (if wi s 0 11 = true then (spX I D s.toNatClampNeg (!decide (l = 0)) ((I 36 s.toNatClampNeg).toNatClampNeg - 1)).1 else -2))) I D) := by
  refine Con.mk (LV := v_X_spring) k_X_spring (Nat.le_of_ble_eq_true rfl) (fun K hK => ?_)
  refine hK (0, 22, o_X_spring_0) (List.mem_of_getElem? (i := 0) rfl) _ _ _ _ ?_
  refine call_eq (c_X_isStation g (d + 1) I D s) ?_
  refine And.intro (fun c1 => ?_) (fun c1 => ?_)
  · rw [bI_0.mp c1]
    exact And.intro rfl (And.intro rfl rfl)
  have h1 := bI_n0.mp c1
  rw [h1]
  obtain ⟨s, hs, rfl⟩ := wi_nI (m := 11) (by decide) h1
  obtain ⟨c, hc, hce⟩ := hW s (by omega)
  rw [nI_clamp (show s < 2 ^ 31 by omega), hce, nI_clamp (show c < 2 ^ 31 by omega)]
  refine call_eq (c_X_furthest g d I D s c (by omega) hc hce (fun j hj => (hH s c (by omega) hce j hj).1) l) ?_
  exact And.intro rfl (And.intro rfl rfl)
set_option maxHeartbeats 1000000 in
theorem c_M_spring (hW : ∀ s, s < 12 → ∃ c, c ≤ 40 ∧ I 97 s = nI c) (hH : ∀ s c, s < 12 → I 97 s = nI c → ∀ j, j < c → fb 300 (D 100 (40 * s + j))) (s l : Int32) : Con g SHc (d + 2) 195 [.ref 12, .int s, .int l] I D (EqP (some (.int (if wi s 0 11 = true then (spM I D s.toNatClampNeg (!decide (l = 0)) ((I 97 s.toNatClampNeg).toNatClampNeg - 1)).1 else -2))) I D) := by
  refine Con.mk (LV := v_M_spring) k_M_spring (Nat.le_of_ble_eq_true rfl) (fun K hK => ?_)
  refine hK (0, 18, o_M_spring_0) (List.mem_of_getElem? (i := 0) rfl) _ _ _ _ ?_
  refine call_eq (c_M_isStation g d I D s) ?_
  refine And.intro (fun c1 => ?_) (fun c1 => ?_)
  · have h1 := bI_n0.mp c1
    rw [h1] at hK
    obtain ⟨s, hs, rfl⟩ := wi_nI (m := 11) (by decide) h1
    obtain ⟨c, hc, hce⟩ := hW s (by omega)
    have hH := fun j hj => hH s c (by omega) hce j hj
    rw [nI_clamp (show s < 2 ^ 31 by omega), hce, nI_clamp (show c < 2 ^ 31 by omega)] at hK
    have hsc : (nI s).toNatClampNeg = s := nI_clamp (by omega)
    have hs12 : inn (nI s) 12 := inn_nI (by omega) (by decide)
    have loop : ∀ r i, i + r = c - 1 → K 18 [(0, .ref 12), (1, .int (nI s)), (2, .int l), (3, .int (spM I D s (!decide (l = 0)) i).1), (4, .double (spM I D s (!decide (l = 0)) i).2), (6, .int (nI i))] [] I D := by
      intro r
      induction r with
      | zero =>
        intro i hi
        have hi : i = c - 1 := by omega
        subst hi
        refine hK (18, 93, o_M_spring_1) (List.mem_of_getElem? (i := 1) rfl) _ _ _ _ ?_
        refine And.intro (hs12) ?_
        refine And.intro (fun c1 => ?_) (fun c1 => ?_)
        · exact And.intro rfl (And.intro rfl rfl)
        · rw [hsc, hce] at c1
          exact absurd (m1_le hc) c1
      | succ r ih =>
        intro i hi
        have go := ih (i + 1) (by omega)
        have nxt : spM I D s (!decide (l = 0)) (i + 1) = if (!decide (I 99 (40 * s + i) = I 99 (40 * s + i + 1))) = true ∧ ((spM I D s (!decide (l = 0)) i).1 = -1 ∨ upB (!decide (l = 0)) (spM I D s (!decide (l = 0)) i).2 (rgM (D 100 (40 * s + i)) (D 100 (40 * s + i + 1))) = true) then (nI i, rgM (D 100 (40 * s + i)) (D 100 (40 * s + i + 1))) else spM I D s (!decide (l = 0)) i := rfl
        rw [nxt] at go
        generalize spM I D s (!decide (l = 0)) i = B at go ⊢
        rw [nI_succ] at go
        refine hK (18, 93, o_M_spring_1) (List.mem_of_getElem? (i := 1) rfl) _ _ _ _ ?_
        refine And.intro (hs12) ?_
        refine And.intro (fun c1 => ?_) (fun c1 => ?_)
        · rw [hsc, hce] at c1
          exact absurd c1 (m1_nle hc (by omega))
        refine call_eq (c_M_hasR g (d + 1) I D s i (by omega) (by omega)) ?_
        refine And.intro (fun c2 => ?_) (fun c2 => ?_)
        · rw [if_neg (fun z => by rw [bI_0.mp c2] at z; exact absurd z.1 (by decide))] at go
          exact go
        have h2 := bI_n0.mp c2
        refine call_eq (c_M_rgO g (d + 1) I D s i (by omega) (by omega) (hH i (by omega)) (hH (i + 1) (by omega))) ?_
        generalize rgM (D 100 (40 * s + i)) (D 100 (40 * s + i + 1)) = R at go ⊢
        refine And.intro (fun c3 => ?_) (fun c3 => ?_)
        · rw [if_pos ⟨h2, Or.inl c3⟩] at go
          exact go
        refine And.intro (fun c4 => ?_) (fun c4 => ?_)
        · rw [decide_eq_true c4] at go
          refine And.intro (fun c5 => ?_) (fun c5 => ?_)
          · have : upB (!true) B.2 R = false := by
              show (!decide _) = false
              rw [decide_eq_true c5]
              rfl
            rw [if_neg (fun z => z.2.elim c3 (fun z => by rw [this] at z; exact absurd z (by decide)))] at go
            exact go
          · have : upB (!true) B.2 R = true := by
              show (!decide _) = true
              rw [decide_eq_false c5]
              rfl
            rw [if_pos ⟨h2, Or.inr this⟩] at go
            exact go
        · rw [decide_eq_false c4] at go
          refine And.intro (fun c5 => ?_) (fun c5 => ?_)
          · have : upB (!false) B.2 R = false := by
              show (!decide _) = false
              rw [decide_eq_true c5]
              rfl
            rw [if_neg (fun z => z.2.elim c3 (fun z => by rw [this] at z; exact absurd z (by decide)))] at go
            exact go
          · have : upB (!false) B.2 R = true := by
              show (!decide _) = true
              rw [decide_eq_false c5]
              rfl
            rw [if_pos ⟨h2, Or.inr this⟩] at go
            exact go
    exact loop (c - 1) 0 (by omega)
  · rw [bI_0.mp c1]
    exact And.intro rfl (And.intro rfl rfl)
end S55
