/-! which SURVEY or BED is in FORCE: a row of days, a row of when told, a row of whose -/
def ifF (st dy si : Nat → Int32) (s t k : Int32) : Nat → Int32
  | 0 => -1
  | n + 1 => if (st n = s ∧ si n ≤ k ∧ dy n ≤ t / 86400) ∧ (ifF st dy si s t k n = -1 ∨ dy (ifF st dy si s t k n).toNatClampNeg ≤ dy n) then nI n else ifF st dy si s t k n
theorem ifF_in (st dy si : Nat → Int32) (s t k : Int32) : ∀ n, ifF st dy si s t k n = -1 ∨ ∃ j, j < n ∧ ifF st dy si s t k n = nI j
  | 0 => Or.inl rfl
  | n + 1 => by
    unfold ifF
    split
    · exact Or.inr ⟨n, by omega, rfl⟩
    · rcases ifF_in st dy si s t k n with h | ⟨j, h1, h2⟩
      · exact Or.inl h
      · exact Or.inr ⟨j, by omega, h2⟩
theorem inn_nI {i n : Nat} (h : i < n) (hn : n < 2 ^ 31) : inn (nI i) n := by
  unfold inn
  rw [nI_toInt (by omega)]
  omega
theorem ifF_n {st dy si : Nat → Int32} {s t k : Int32} {n : Nat} (h : ¬ ((st n = s ∧ si n ≤ k ∧ dy n ≤ t / 86400) ∧ (ifF st dy si s t k n = -1 ∨ dy (ifF st dy si s t k n).toNatClampNeg ≤ dy n))) : ifF st dy si s t k (n + 1) = ifF st dy si s t k n := if_neg h
theorem ifF_y {st dy si : Nat → Int32} {s t k : Int32} {n : Nat} (h : (st n = s ∧ si n ≤ k ∧ dy n ≤ t / 86400) ∧ (ifF st dy si s t k n = -1 ∨ dy (ifF st dy si s t k n).toNatClampNeg ≤ dy n)) : ifF st dy si s t k (n + 1) = nI n := if_pos h
section S22
variable (g : Gp) (d : Nat) (I : MI) (D : MD)
theorem c_X_inForce (s t k : Int32) (n : Nat) (hn : n ≤ 60) (hI : I 2 9 = nI n) : Con g SHc d 17 [.ref 2, .int s, .int t, .int k] I D (EqP (some (.int (ifF (I 16) (I 17) (I 18) s t k n))) I D) := by
  refine Con.mk (LV := v_Surveys_inForce) k_Surveys_inForce (Nat.le_of_ble_eq_true rfl) (fun K hK => ?_)
  have loop : ∀ r i, i + r = n → K 6 [(0, .ref 2), (1, .int s), (2, .int t), (3, .int k), (4, .int (ifF (I 16) (I 17) (I 18) s t k i)), (5, .int (nI i))] [] I D := by
    intro r
    induction r with
    | zero =>
      intro i hi
      have hi : i = n := by omega
      subst hi
      refine hK (6, 99, o_Surveys_inForce_1) (List.mem_of_getElem? (i := 1) rfl) _ _ _ _ ?_
      refine And.intro (fun c => ?_) (fun c => ?_)
      · exact And.intro rfl (And.intro rfl rfl)
      · exact absurd (by rw [hI]; exact nI_le (Nat.le_refl _) (by omega)) c
    | succ r ih =>
      intro i hi
      have h60 : inn (nI i) 60 := inn_nI (by omega) (by decide)
      have hcl : (nI i).toNatClampNeg = i := nI_clamp (by omega)
      have go := ih (i + 1) (by omega)
      rw [nI_succ] at go
      have bd : ¬ ifF (I 16) (I 17) (I 18) s t k i = -1 → inn (ifF (I 16) (I 17) (I 18) s t k i) 60 := by
        intro h
        rcases ifF_in (I 16) (I 17) (I 18) s t k i with h1 | ⟨j, h1, h2⟩
        · exact absurd h1 h
        · rw [h2]
          exact inn_nI (by omega) (by decide)
      refine hK (6, 99, o_Surveys_inForce_1) (List.mem_of_getElem? (i := 1) rfl) _ _ _ _ ?_
      refine And.intro (fun c => ?_) (fun c => ?_)
      · rw [hI] at c
        exact absurd c (nI_ge (by omega) (by omega))
      refine And.intro (h60) ?_
      refine And.intro (fun c1 => ?_) (fun c1 => ?_)
      · rw [hcl] at c1
        rw [ifF_n (fun h => c1 h.1.1)] at go
        exact And.intro (fun _ => go) (fun h => absurd rfl h)
      refine And.intro (h60) ?_
      refine And.intro (fun c2 => ?_) (fun c2 => ?_)
      · rw [hcl] at c2
        rw [ifF_n (fun h => absurd h.1.2.1 (i32_nle.mpr c2))] at go
        exact And.intro (fun _ => go) (fun h => absurd rfl h)
      refine And.intro (h60) ?_
      refine And.intro (by decide) ?_
      refine And.intro (fun c3 => ?_) (fun c3 => ?_)
      · rw [hcl] at c3
        rw [ifF_n (fun h => absurd h.1.2.2 (i32_nle.mpr c3))] at go
        exact And.intro (fun _ => go) (fun h => absurd rfl h)
      rw [hcl] at c1 c2 c3
      refine And.intro (fun h => absurd h (by decide)) (fun _ => ?_)
      refine And.intro (fun c4 => ?_) (fun c4 => ?_)
      · rw [ifF_y ⟨⟨c1, i32_nlt.mp c2, i32_nlt.mp c3⟩, Or.inl c4⟩] at go
        exact go
      refine And.intro (h60) ?_
      refine And.intro (bd c4) ?_
      refine And.intro (fun c5 => ?_) (fun c5 => ?_)
      · rw [hcl] at c5
        rw [ifF_n (fun h => h.2.elim (fun z => c4 z) (fun z => absurd z (i32_nle.mpr c5)))] at go
        exact go
      · rw [hcl] at c5
        rw [ifF_y ⟨⟨c1, i32_nlt.mp c2, i32_nlt.mp c3⟩, Or.inr (i32_nlt.mp c5)⟩] at go
        exact go
  refine hK (0, 6, o_Surveys_inForce_0) (List.mem_of_getElem? (i := 0) rfl) _ _ _ _ ?_
  exact loop n 0 (by omega)
theorem c_M_inForce (s t k : Int32) (n : Nat) (hn : n ≤ 60) (hI : I 12 8 = nI n) : Con g SHc d 163 [.ref 12, .int s, .int t, .int k] I D (EqP (some (.int (ifF (I 75) (I 76) (I 77) s t k n))) I D) := by
  refine Con.mk (LV := v_M_inForce) k_M_inForce (Nat.le_of_ble_eq_true rfl) (fun K hK => ?_)
  have loop : ∀ r i, i + r = n → K 6 [(0, .ref 12), (1, .int s), (2, .int t), (3, .int k), (4, .int (ifF (I 75) (I 76) (I 77) s t k i)), (5, .int (nI i))] [] I D := by
    intro r
    induction r with
    | zero =>
      intro i hi
      have hi : i = n := by omega
      subst hi
      refine hK (6, 100, o_M_inForce_1) (List.mem_of_getElem? (i := 1) rfl) _ _ _ _ ?_
      refine And.intro (fun c => ?_) (fun c => ?_)
      · exact And.intro rfl (And.intro rfl rfl)
      · exact absurd (by rw [hI]; exact nI_le (Nat.le_refl _) (by omega)) c
    | succ r ih =>
      intro i hi
      have h60 : inn (nI i) 60 := inn_nI (by omega) (by decide)
      have hcl : (nI i).toNatClampNeg = i := nI_clamp (by omega)
      have go := ih (i + 1) (by omega)
      rw [nI_succ] at go
      have bd : ¬ ifF (I 75) (I 76) (I 77) s t k i = -1 → inn (ifF (I 75) (I 76) (I 77) s t k i) 60 := by
        intro h
        rcases ifF_in (I 75) (I 76) (I 77) s t k i with h1 | ⟨j, h1, h2⟩
        · exact absurd h1 h
        · rw [h2]
          exact inn_nI (by omega) (by decide)
      refine hK (6, 100, o_M_inForce_1) (List.mem_of_getElem? (i := 1) rfl) _ _ _ _ ?_
      refine And.intro (fun c => ?_) (fun c => ?_)
      · rw [hI] at c
        exact absurd c (nI_ge (by omega) (by omega))
      refine And.intro (h60) ?_
      refine And.intro (fun c1 => ?_) (fun c1 => ?_)
      · rw [hcl] at c1
        rw [ifF_n (fun h => c1 h.1.1)] at go
        exact And.intro (fun _ => go) (fun h => absurd rfl h)
      refine And.intro (h60) ?_
      refine And.intro (fun c2 => ?_) (fun c2 => ?_)
      · rw [hcl] at c2
        rw [ifF_n (fun h => absurd h.1.2.1 (i32_nle.mpr c2))] at go
        exact And.intro (fun _ => go) (fun h => absurd rfl h)
      refine And.intro (h60) ?_
      refine And.intro (by decide) ?_
      refine And.intro (fun c3 => ?_) (fun c3 => ?_)
      · rw [hcl] at c3
        rw [ifF_n (fun h => absurd h.1.2.2 (i32_nle.mpr c3))] at go
        exact And.intro (fun _ => go) (fun h => absurd rfl h)
      rw [hcl] at c1 c2 c3
      refine And.intro (fun h => absurd h (by decide)) (fun _ => ?_)
      refine And.intro (fun c4 => ?_) (fun c4 => ?_)
      · rw [ifF_y ⟨⟨c1, i32_nlt.mp c2, i32_nlt.mp c3⟩, Or.inl c4⟩] at go
        exact go
      refine And.intro (h60) ?_
      refine And.intro (bd c4) ?_
      refine And.intro (fun c5 => ?_) (fun c5 => ?_)
      · rw [hcl] at c5
        rw [ifF_n (fun h => h.2.elim (fun z => c4 z) (fun z => absurd z (i32_nle.mpr c5)))] at go
        exact go
      · rw [hcl] at c5
        rw [ifF_y ⟨⟨c1, i32_nlt.mp c2, i32_nlt.mp c3⟩, Or.inr (i32_nlt.mp c5)⟩] at go
        exact go
  refine hK (0, 6, o_M_inForce_0) (List.mem_of_getElem? (i := 0) rfl) _ _ _ _ ?_
  exact loop n 0 (by omega)
end S22
