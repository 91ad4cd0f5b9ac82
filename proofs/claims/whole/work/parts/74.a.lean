/-! together in a LOCK or on a REACH -/
def anyB (f : Nat → Bool) : Nat → Bool
  | 0 => false
  | n + 1 => anyB f n || f n
theorem anyB_t {f : Nat → Bool} {k : Nat} (h : f k = true) : ∀ {n : Nat}, k < n → anyB f n = true
  | 0, hk => absurd hk (Nat.not_lt_zero _)
  | n + 1, hk => by
    unfold anyB
    rcases Nat.lt_or_ge k n with h1 | h1
    · rw [anyB_t h h1]
      rfl
    · have : k = n := by omega
      subst this
      rw [h, Bool.or_true]
theorem anyB_s {f : Nat → Bool} {n : Nat} (h1 : anyB f n = false) (h2 : f n = false) : anyB f (n + 1) = false := by
  unfold anyB
  rw [h1, h2]
  rfl
theorem anyB_c {f g : Nat → Bool} : ∀ {n : Nat}, (∀ k, k < n → f k = g k) → anyB f n = anyB g n
  | 0, _ => rfl
  | n + 1, h => by
    unfold anyB
    rw [anyB_c (fun k hk => h k (by omega)), h n (by omega)]
def lkB (s s' lk a b : Int32) : Bool := !decide (lk = 0) && decide (s = s') && (decide (a < b + lk) && decide (b < a + lk))
def smB (f t f' t' : Int32) : Bool := decide (f = f') && decide (t = t') || decide (f = t') && decide (t = f')
def rcB (f t f' t' a a1 b b1 : Int32) : Bool := smB f t f' t' && (decide (a < b1) && decide (b < a1))
def mtB (sh lk co at' : Nat → Int32) (r r' li lj i j : Nat) : Bool := lkB (sh (4 * r + i)) (sh (4 * r' + j)) (lk (sh (4 * r + i)).toNatClampNeg) (co i) (at' j) || (decide (i + 1 < li) && decide (j + 1 < lj) && rcB (sh (4 * r + i)) (sh (4 * r + i + 1)) (sh (4 * r' + j)) (sh (4 * r' + j + 1)) (co i) (co (i + 1)) (at' j) (at' (j + 1)))
def mtA (sh lk co at' : Nat → Int32) (r r' li lj : Nat) : Bool := anyB (fun i => anyB (fun j => mtB sh lk co at' r r' li lj i j) lj) li
section S74
variable (g : Gp) (d : Nat) (I : MI) (D : MD)
theorem c_X_meetInLock (r i p j r' q : Nat) (hr : r < 6) (hi : i < 4) (hp : p < 40) (hj : j < 4) (hr' : r' < 6) (hrt : I 63 p = nI r') (hq : q < 16) (hqe : I 51 (4 * r + i) = nI q) : Con g SHc d 132 [.ref 11, .int (nI r), .int (nI i), .int (nI p), .int (nI j)] I D (EqP (some (.int (bI (lkB (I 51 (4 * r + i)) (I 51 (4 * r' + j)) (I 31 (I 51 (4 * r + i)).toNatClampNeg) (I 54 i) (I 68 (4 * p + j)))))) I D) := by
  refine Con.mk (LV := v_Passages_meetInLock) k_Passages_meetInLock (Nat.le_of_ble_eq_true rfl) (fun K hK => ?_)
  refine hK (0, 108, o_Passages_meetInLock_0) (List.mem_of_getElem? (i := 0) rfl) _ _ _ _ ?_
  have e1 : nI r * 4 + nI i = nI (4 * r + i) := by rw [show (4 : Int32) = nI 4 from rfl, pk_mul, nI_add, Nat.mul_comm r 4]
  have e2 : nI r' * 4 + nI j = nI (4 * r' + j) := by rw [show (4 : Int32) = nI 4 from rfl, pk_mul, nI_add, Nat.mul_comm r' 4]
  have e3 : nI p * 4 + nI j = nI (4 * p + j) := by rw [show (4 : Int32) = nI 4 from rfl, pk_mul, nI_add, Nat.mul_comm p 4]
  have ic : (nI i).toNatClampNeg = i := nI_clamp (by omega)
  have pc : (nI p).toNatClampNeg = p := nI_clamp (by omega)
  have qc : (nI q).toNatClampNeg = q := nI_clamp (by omega)
  have c1 : (nI (4 * r + i)).toNatClampNeg = 4 * r + i := nI_clamp (by omega)
  have c2 : (nI (4 * r' + j)).toNatClampNeg = 4 * r' + j := nI_clamp (by omega)
  have c3 : (nI (4 * p + j)).toNatClampNeg = 4 * p + j := nI_clamp (by omega)
  unfold lkB
  rw [hqe, qc]
  refine And.intro (by rw [e1]; exact inn_nI (by omega) (by decide)) ?_
  rw [e1, c1, hqe]
  refine And.intro (inn_nI hq (by decide)) ?_
  rw [qc]
  refine And.intro (fun b1 => ?_) (fun b1 => ?_)
  · rw [decide_eq_true b1]
    exact And.intro (by decide) (And.intro rfl (And.intro rfl rfl))
  rw [decide_eq_false b1]
  refine And.intro (inn_nI hp (by decide)) ?_
  rw [pc, hrt]
  refine And.intro (by rw [e2]; exact inn_nI (by omega) (by decide)) ?_
  rw [e2, c2]
  refine And.intro (fun b2 => ?_) (fun b2 => ?_)
  · rw [decide_eq_true b2]
    refine And.intro (inn_nI hi (by decide)) ?_
    refine And.intro (by rw [e3]; exact inn_nI (by omega) (by decide)) ?_
    rw [ic, e3, c3]
    refine And.intro (fun b3 => ?_) (fun b3 => ?_)
    · rw [decide_eq_false (i32_nlt.mpr b3)]
      exact And.intro (by decide) (And.intro rfl (And.intro rfl rfl))
    refine And.intro (fun b4 => ?_) (fun b4 => ?_)
    · rw [decide_eq_false (i32_nlt.mpr b4), Bool.and_false, Bool.and_false]
      exact And.intro (by decide) (And.intro rfl (And.intro rfl rfl))
    · rw [decide_eq_true (i32_nle.mp b3), decide_eq_true (i32_nle.mp b4)]
      exact And.intro (by decide) (And.intro rfl (And.intro rfl rfl))
  · rw [decide_eq_false b2]
    exact And.intro (by decide) (And.intro rfl (And.intro rfl rfl))
theorem c_X_meetInReach (r i p j r' : Nat) (hr : r < 6) (hi : i + 1 < 4) (hp : p < 40) (hj : j + 1 < 4) (hr' : r' < 6) (hrt : I 63 p = nI r') : Con g SHc d 133 [.ref 11, .int (nI r), .int (nI i), .int (nI p), .int (nI j)] I D (EqP (some (.int (bI (rcB (I 51 (4 * r + i)) (I 51 (4 * r + i + 1)) (I 51 (4 * r' + j)) (I 51 (4 * r' + j + 1)) (I 54 i) (I 54 (i + 1)) (I 68 (4 * p + j)) (I 68 (4 * p + j + 1)))))) I D) := by
  refine Con.mk (LV := v_Passages_meetInReach) k_Passages_meetInReach (Nat.le_of_ble_eq_true rfl) (fun K hK => ?_)
  refine hK (0, 172, o_Passages_meetInReach_0) (List.mem_of_getElem? (i := 0) rfl) _ _ _ _ ?_
  have e1 : nI r * 4 + nI i = nI (4 * r + i) := by rw [show (4 : Int32) = nI 4 from rfl, pk_mul, nI_add, Nat.mul_comm r 4]
  have e2 : nI r' * 4 + nI j = nI (4 * r' + j) := by rw [show (4 : Int32) = nI 4 from rfl, pk_mul, nI_add, Nat.mul_comm r' 4]
  have e3 : nI p * 4 + nI j = nI (4 * p + j) := by rw [show (4 : Int32) = nI 4 from rfl, pk_mul, nI_add, Nat.mul_comm p 4]
  have ic : (nI i).toNatClampNeg = i := nI_clamp (by omega)
  have ic1 : (nI i + 1).toNatClampNeg = i + 1 := by rw [nI_1]; exact nI_clamp (by omega)
  have pc : (nI p).toNatClampNeg = p := nI_clamp (by omega)
  have c1 : (nI (4 * r + i)).toNatClampNeg = 4 * r + i := nI_clamp (by omega)
  have c2 : (nI (4 * r' + j)).toNatClampNeg = 4 * r' + j := nI_clamp (by omega)
  have c3 : (nI (4 * p + j)).toNatClampNeg = 4 * p + j := nI_clamp (by omega)
  have d1 : (nI (4 * r + i) + 1).toNatClampNeg = 4 * r + i + 1 := by rw [nI_1]; exact nI_clamp (by omega)
  have d2 : (nI (4 * r' + j) + 1).toNatClampNeg = 4 * r' + j + 1 := by rw [nI_1]; exact nI_clamp (by omega)
  have d3 : (nI (4 * p + j) + 1).toNatClampNeg = 4 * p + j + 1 := by rw [nI_1]; exact nI_clamp (by omega)
  have hp40 : inn (nI p) 40 := inn_nI hp (by decide)
  refine And.intro (by rw [e1]; exact inn_nI (by omega) (by decide)) ?_
  refine And.intro (by rw [e1, nI_1]; exact inn_nI (by omega) (by decide)) ?_
  refine And.intro (hp40) ?_
  rw [pc, hrt]
  refine And.intro (by rw [e2]; exact inn_nI (by omega) (by decide)) ?_
  refine And.intro (hp40) ?_
  rw [pc, hrt]
  refine And.intro (by rw [e2, nI_1]; exact inn_nI (by omega) (by decide)) ?_
  rw [e1, e2, c1, c2, d1, d2]
  generalize I 51 (4 * r + i) = f
  generalize I 51 (4 * r + i + 1) = t
  generalize I 51 (4 * r' + j) = f'
  generalize I 51 (4 * r' + j + 1) = t'
  have tail : ∀ y, y = smB f t f' t' → wp SHc none (retP (EqP (some (.int (bI (rcB f t f' t' (I 54 i) (I 54 (i + 1)) (I 68 (4 * p + j)) (I 68 (4 * p + j + 1)))))) I D)) (CaD g SHc d) v_Passages_meetInReach K 172 o_Passages_meetInReach_0 (some 109) [(8, .int t'), (7, .int f'), (6, .int t), (5, .int f), (0, .ref 11), (1, .int (nI r)), (2, .int (nI i)), (3, .int (nI p)), (4, .int (nI j))] [.int (bI y)] I D := by
    intro y hy
    unfold rcB
    rw [← hy]
    refine And.intro (fun b1 => ?_) (fun b1 => ?_)
    · rw [bI_0.mp b1]
      exact And.intro (by decide) (And.intro rfl (And.intro rfl rfl))
    rw [bI_n0.mp b1]
    refine And.intro (inn_nI (by omega) (by decide)) ?_
    refine And.intro (by rw [e3, nI_1]; exact inn_nI (by omega) (by decide)) ?_
    rw [ic, e3, d3]
    refine And.intro (fun b2 => ?_) (fun b2 => ?_)
    · rw [decide_eq_false (i32_nlt.mpr b2)]
      exact And.intro (by decide) (And.intro rfl (And.intro rfl rfl))
    rw [decide_eq_true (i32_nle.mp b2)]
    refine And.intro (by rw [e3]; exact inn_nI (by omega) (by decide)) ?_
    refine And.intro (by rw [nI_1]; exact inn_nI (by omega) (by decide)) ?_
    rw [ic1, e3, c3]
    refine And.intro (fun b3 => ?_) (fun b3 => ?_)
    · rw [decide_eq_false (i32_nlt.mpr b3)]
      exact And.intro (by decide) (And.intro rfl (And.intro rfl rfl))
    · rw [decide_eq_true (i32_nle.mp b3)]
      exact And.intro (by decide) (And.intro rfl (And.intro rfl rfl))
  refine And.intro (fun b1 => ?_) (fun b1 => ?_)
  · refine And.intro (fun b2 => ?_) (fun b2 => ?_)
    · exact tail false (by unfold smB; rw [decide_eq_false b1, decide_eq_false b2]; rfl)
    refine And.intro (fun b3 => ?_) (fun b3 => ?_)
    · exact tail false (by unfold smB; rw [decide_eq_false b1, decide_eq_false b3]; simp)
    · exact tail true (by unfold smB; rw [decide_eq_true b2, decide_eq_true b3]; simp)
  refine And.intro (fun b4 => ?_) (fun b4 => ?_)
  · exact tail true (by unfold smB; rw [decide_eq_true b1, decide_eq_true b4]; simp)
  refine And.intro (fun b2 => ?_) (fun b2 => ?_)
  · exact tail false (by unfold smB; rw [decide_eq_false b4, decide_eq_false b2]; simp)
  refine And.intro (fun b3 => ?_) (fun b3 => ?_)
  · exact tail false (by unfold smB; rw [decide_eq_false b4, decide_eq_false b3]; simp)
  · exact tail true (by unfold smB; rw [decide_eq_true b2, decide_eq_true b3]; simp)
set_option maxHeartbeats 1000000 in
theorem c_X_meets (r p r' li lj : Nat) (hr : r < 6) (hp : p < 40) (hr' : r' < 6) (hrt : I 63 p = nI r') (hli : li ≤ 4) (hlie : I 50 r = nI li) (hlj : lj ≤ 4) (hlje : I 50 r' = nI lj) (hsh : ∀ i, i < li → ∃ q, q < 16 ∧ I 51 (4 * r + i) = nI q) : Con g SHc (d + 1) 131 [.ref 11, .int (nI r), .int (nI p)] I D (EqP (some (.int (bI (mtA (I 51) (I 31) (I 54) (fun j => I 68 (4 * p + j)) r r' li lj)))) I D) := by
  refine Con.mk (LV := v_Passages_meets) k_Passages_meets (Nat.le_of_ble_eq_true rfl) (fun K hK => ?_)
  have hr6 : inn (nI r) 6 := inn_nI hr (by decide)
  have hr6' : inn (nI r') 6 := inn_nI hr' (by decide)
  have hp40 : inn (nI p) 40 := inn_nI hp (by decide)
  have rc : (nI r).toNatClampNeg = r := nI_clamp (by omega)
  have rc' : (nI r').toNatClampNeg = r' := nI_clamp (by omega)
  have pc : (nI p).toNatClampNeg = p := nI_clamp (by omega)
  obtain ⟨f, hf⟩ : ∃ f : Nat → Nat → Bool, f = fun i j => mtB (I 51) (I 31) (I 54) (fun j => I 68 (4 * p + j)) r r' li lj i j := ⟨_, rfl⟩
  have eV : mtA (I 51) (I 31) (I 54) (fun j => I 68 (4 * p + j)) r r' li lj = anyB (fun i => anyB (f i) lj) li := by rw [hf]; rfl
  rw [eV] at hK
  have yes : ∀ i j, i < li → j < lj → f i j = true → anyB (fun i => anyB (f i) lj) li = true := fun i j hi hj h => anyB_t (f := fun i => anyB (f i) lj) (k := i) (anyB_t h hj) hi
  have k113 : anyB (fun i => anyB (f i) lj) li = false → K 113 [] [] I D := by
    intro h
    rw [h] at hK
    refine hK (113, 115, o_Passages_meets_3) (List.mem_of_getElem? (i := 3) rfl) _ _ _ _ ?_
    exact And.intro (by decide) (And.intro rfl (And.intro rfl rfl))
  have inner : ∀ i, i < li → (anyB (f i) lj = false → K 2 [(0, .ref 11), (1, .int (nI r)), (2, .int (nI p)), (3, .int (nI i + 1))] [] I D) → ∀ k j, j + k = lj → anyB (f i) j = false → K 18 [(0, .ref 11), (1, .int (nI r)), (2, .int (nI p)), (3, .int (nI i)), (4, .int (nI j))] [] I D := by
    intro i hi cont k
    induction k with
    | zero =>
      intro j hj hn
      have hj : j = lj := by omega
      subst hj
      refine hK (18, 113, o_Passages_meets_2) (List.mem_of_getElem? (i := 2) rfl) _ _ _ _ ?_
      refine And.intro (hp40) ?_
      rw [pc, hrt]
      refine And.intro (hr6') ?_
      rw [rc', hlje]
      refine And.intro (fun c => ?_) (fun c => ?_)
      · exact cont hn
      · exact absurd (nI_le (Nat.le_refl _) (by omega)) c
    | succ k ih =>
      intro j hj hn
      obtain ⟨q, hq, hqe⟩ := hsh i hi
      have go : f i j = false → K 18 [(0, .ref 11), (1, .int (nI r)), (2, .int (nI p)), (3, .int (nI i)), (4, .int (nI j + 1))] [] I D := by
        intro h
        have g := ih (j + 1) (by omega) (anyB_s hn h)
        rw [nI_succ] at g
        exact g
      have ef : f i j = (lkB (I 51 (4 * r + i)) (I 51 (4 * r' + j)) (I 31 (I 51 (4 * r + i)).toNatClampNeg) (I 54 i) (I 68 (4 * p + j)) || (decide (i + 1 < li) && decide (j + 1 < lj) && rcB (I 51 (4 * r + i)) (I 51 (4 * r + i + 1)) (I 51 (4 * r' + j)) (I 51 (4 * r' + j + 1)) (I 54 i) (I 54 (i + 1)) (I 68 (4 * p + j)) (I 68 (4 * p + j + 1)))) := by rw [hf]; rfl
      refine hK (18, 113, o_Passages_meets_2) (List.mem_of_getElem? (i := 2) rfl) _ _ _ _ ?_
      refine And.intro (hp40) ?_
      rw [pc, hrt]
      refine And.intro (hr6') ?_
      rw [rc', hlje]
      refine And.intro (fun c => ?_) (fun c => ?_)
      · exact absurd c (nI_ge (by omega) (by omega))
      refine call_eq (c_X_meetInLock g d I D r i p j r' q hr (by omega) hp (by omega) hr' hrt hq hqe) ?_
      refine And.intro (fun c1 => ?_) (fun c1 => ?_)
      · rw [bI_0.mp c1, Bool.false_or] at ef
        refine And.intro (hr6) ?_
        rw [rc, hlie]
        refine And.intro (fun c2 => ?_) (fun c2 => ?_)
        · have c2 : nI li ≤ nI i + 1 := c2
          rw [nI_1, nI_leI (by omega) (by omega)] at c2
          exact go (by rw [ef, decide_eq_false (show ¬ i + 1 < li by omega)]; rfl)
        have c2 : ¬ nI li ≤ nI i + 1 := c2
        rw [nI_1, nI_leI (by omega) (by omega)] at c2
        refine And.intro (hp40) ?_
        rw [pc, hrt]
        refine And.intro (hr6') ?_
        rw [rc', hlje]
        refine And.intro (fun c3 => ?_) (fun c3 => ?_)
        · have c3 : nI lj ≤ nI j + 1 := c3
          rw [nI_1, nI_leI (by omega) (by omega)] at c3
          exact go (by rw [ef, decide_eq_false (show ¬ j + 1 < lj by omega), Bool.and_false]; rfl)
        have c3 : ¬ nI lj ≤ nI j + 1 := c3
        rw [nI_1, nI_leI (by omega) (by omega)] at c3
        rw [decide_eq_true (show i + 1 < li by omega), decide_eq_true (show j + 1 < lj by omega), Bool.true_and, Bool.true_and] at ef
        refine call_eq (c_X_meetInReach g d I D r i p j r' hr (by omega) hp (by omega) hr' hrt) ?_
        rw [← ef]
        refine And.intro (fun c4 => ?_) (fun c4 => ?_)
        · exact go (bI_0.mp c4)
        · rw [yes i j hi (by omega) (bI_n0.mp c4)]
          exact And.intro (by decide) (And.intro rfl (And.intro rfl rfl))
      · rw [bI_n0.mp c1, Bool.true_or] at ef
        rw [yes i j hi (by omega) ef]
        exact And.intro (by decide) (And.intro rfl (And.intro rfl rfl))
  have outer : ∀ k i, i + k = li → anyB (fun i => anyB (f i) lj) i = false → K 2 [(0, .ref 11), (1, .int (nI r)), (2, .int (nI p)), (3, .int (nI i))] [] I D := by
    intro k
    induction k with
    | zero =>
      intro i hi hn
      have hi : i = li := by omega
      subst hi
      refine hK (2, 18, o_Passages_meets_1) (List.mem_of_getElem? (i := 1) rfl) _ _ _ _ ?_
      refine And.intro (hr6) ?_
      rw [rc, hlie]
      refine And.intro (fun c => ?_) (fun c => ?_)
      · exact k113 hn
      · exact absurd (nI_le (Nat.le_refl _) (by omega)) c
    | succ k ih =>
      intro i hi hn
      have go : anyB (f i) lj = false → K 2 [(0, .ref 11), (1, .int (nI r)), (2, .int (nI p)), (3, .int (nI i + 1))] [] I D := by
        intro h
        have g := ih (i + 1) (by omega) (anyB_s hn h)
        rw [nI_succ] at g
        exact g
      refine hK (2, 18, o_Passages_meets_1) (List.mem_of_getElem? (i := 1) rfl) _ _ _ _ ?_
      refine And.intro (hr6) ?_
      rw [rc, hlie]
      refine And.intro (fun c => ?_) (fun c => ?_)
      · exact absurd c (nI_ge (by omega) (by omega))
      · exact inner i (by omega) go lj 0 (by omega) rfl
  refine hK (0, 2, o_Passages_meets_0) (List.mem_of_getElem? (i := 0) rfl) _ _ _ _ ?_
  exact outer li 0 (by omega) rfl
def maX (I : MI) (r : Nat) (n : Nat) : Bool := anyB (fun p => !decide (I 66 p = -1) && mtA (I 51) (I 31) (I 54) (fun j => I 68 (4 * p + j)) r (I 63 p).toNatClampNeg (I 50 r).toNatClampNeg (I 50 (I 63 p).toNatClampNeg).toNatClampNeg) n
theorem c_X_meetsAny (hR : RX I) (r n : Nat) (hr : r < 6) (hn : n ≤ 40) (hN : I 11 13 = nI n) (hrt : ∀ p, p < n → ∃ r', r' < 6 ∧ I 63 p = nI r') : Con g SHc (d + 2) 130 [.ref 11, .int (nI r)] I D (EqP (some (.int (bI (maX I r n)))) I D) := by
  refine Con.mk (LV := v_Passages_meetsAny) k_Passages_meetsAny (Nat.le_of_ble_eq_true rfl) (fun K hK => ?_)
  obtain ⟨li, hli, hlie, hlg⟩ := hR r hr
  obtain ⟨f, hf⟩ : ∃ f : Nat → Bool, f = fun p => !decide (I 66 p = -1) && mtA (I 51) (I 31) (I 54) (fun j => I 68 (4 * p + j)) r (I 63 p).toNatClampNeg (I 50 r).toNatClampNeg (I 50 (I 63 p).toNatClampNeg).toNatClampNeg := ⟨_, rfl⟩
  have eV : maX I r n = anyB f n := by rw [hf]; rfl
  rw [eV] at hK
  have loop : ∀ k p, p + k = n → anyB f p = false → K 2 [(0, .ref 11), (1, .int (nI r)), (2, .int (nI p))] [] I D := by
    intro k
    induction k with
    | zero =>
      intro p hp h0
      have hp : p = n := by omega
      subst hp
      rw [h0] at hK
      refine hK (2, 39, o_Passages_meetsAny_1) (List.mem_of_getElem? (i := 1) rfl) _ _ _ _ ?_
      refine And.intro (fun c => ?_) (fun c => ?_)
      · exact And.intro (by decide) (And.intro rfl (And.intro rfl rfl))
      · exact absurd (by rw [hN]; exact nI_le (Nat.le_refl _) (by omega)) c
    | succ k ih =>
      intro p hp h0
      have hpc : (nI p).toNatClampNeg = p := nI_clamp (by omega)
      obtain ⟨r', hr', hre⟩ := hrt p (by omega)
      obtain ⟨lj, hlj, hlje, -⟩ := hR r' hr'
      have ef : f p = (!decide (I 66 p = -1) && mtA (I 51) (I 31) (I 54) (fun j => I 68 (4 * p + j)) r r' li lj) := by
        rw [hf]
        show (!decide (I 66 p = -1) && mtA (I 51) (I 31) (I 54) (fun j => I 68 (4 * p + j)) r (I 63 p).toNatClampNeg (I 50 r).toNatClampNeg (I 50 (I 63 p).toNatClampNeg).toNatClampNeg) = _
        rw [hre, nI_clamp (show r' < 2 ^ 31 by omega), hlie, hlje, nI_clamp (show li < 2 ^ 31 by omega), nI_clamp (show lj < 2 ^ 31 by omega)]
      have go : f p = false → K 2 [(0, .ref 11), (1, .int (nI r)), (2, .int (nI p + 1))] [] I D := by
        intro h
        have g := ih (p + 1) (by omega) (anyB_s h0 h)
        rw [nI_succ] at g
        exact g
      refine hK (2, 39, o_Passages_meetsAny_1) (List.mem_of_getElem? (i := 1) rfl) _ _ _ _ ?_
      refine And.intro (fun c => ?_) (fun c => ?_)
      · rw [hN] at c
        exact absurd c (nI_ge (by omega) (by omega))
      refine And.intro (inn_nI (by omega) (by decide)) ?_
      rw [hpc]
      refine And.intro (fun c1 => ?_) (fun c1 => ?_)
      · exact go (by rw [ef, decide_eq_true c1]; rfl)
      rw [decide_eq_false c1, Bool.not_false, Bool.true_and] at ef
      refine call_eq (c_X_meets g d I D r p r' li lj hr (by omega) hr' hre hli hlie hlj hlje (fun i hi => by obtain ⟨q, s, a, z1, z2, -⟩ := hlg i hi; exact ⟨q, z1, z2⟩)) ?_
      rw [← ef]
      refine And.intro (fun c2 => ?_) (fun c2 => ?_)
      · exact go (bI_0.mp c2)
      · rw [anyB_t (bI_n0.mp c2) (show p < n by omega)]
        exact And.intro (by decide) (And.intro rfl (And.intro rfl rfl))
  refine hK (0, 2, o_Passages_meetsAny_0) (List.mem_of_getElem? (i := 0) rfl) _ _ _ _ ?_
  exact loop n 0 (by omega) rfl
end S74
