/-! move -/
def sel5 {α : Type} (ok full nul bad st : Bool) (a b c e f h : α) : α := match ok, full, nul, bad, st with
  | false, _, _, _, _ => a
  | true, true, _, _, _ => b
  | true, false, true, _, _ => c
  | true, false, false, true, _ => e
  | true, false, false, false, true => f
  | true, false, false, false, false => h
def spB (i n sz : Int32) : Bool := decide (0 ≤ i) && decide (0 ≤ n) && decide (i.toInt + n.toInt ≤ sz.toInt)
theorem spB_e {i n : Int32} {z : Nat} (hz : z ≤ 8) (h : spB i n (nI z) = true) : ∃ i' n', i = nI i' ∧ n = nI n' ∧ i' + n' ≤ z := by
  unfold spB at h
  simp only [Bool.and_eq_true, decide_eq_true_eq] at h
  obtain ⟨⟨h1, h2⟩, h3⟩ := h
  obtain ⟨i', hi, rfl⟩ := nI_of (x := i) (fun q => absurd h1 (i32_nle.mpr q))
  obtain ⟨n', hn, rfl⟩ := nI_of (x := n) (fun q => absurd h2 (i32_nle.mpr q))
  rw [nI_toInt hi, nI_toInt hn, nI_toInt (by omega)] at h3
  exact ⟨i', n', rfl, rfl, by omega⟩
def mvG (kd : Nat → Int32) (so : Int32) (c : Nat → Int32) (base : Nat) (pl : Nat → Int32) : Nat → Bool × (Nat → Int32)
  | 0 => (true, pl)
  | k + 1 => if (mvG kd so c base pl k).1 = true ∧ tkB kd so (c k) = true then (true, up1 (mvG kd so c base pl k).2 (base + k) (c k)) else (false, (mvG kd so c base pl k).2)
theorem mvG_f {kd : Nat → Int32} {so : Int32} {c : Nat → Int32} {base : Nat} {pl : Nat → Int32} {k : Nat} (h : ¬ (mvG kd so c base pl k).1 = true) : ∀ j, mvG kd so c base pl (k + j) = (false, (mvG kd so c base pl k).2)
  | 0 => by
    have : (mvG kd so c base pl k).1 = false := by simpa using h
    show mvG kd so c base pl k = _
    rw [← this]
  | j + 1 => by
    have ih := mvG_f h j
    have e : mvG kd so c base pl (k + (j + 1)) = if (mvG kd so c base pl (k + j)).1 = true ∧ tkB kd so (c (k + j)) = true then (true, up1 (mvG kd so c base pl (k + j)).2 (base + (k + j)) (c (k + j))) else (false, (mvG kd so c base pl (k + j)).2) := rfl
    rw [e, if_neg (fun z => by rw [ih] at z; exact absurd z.1 (by simp)), ih]
section S65
variable (g : Gp) (d : Nat) (I : MI) (D : MD)
theorem c_X_hasSpan (f z : Nat) (hf : f < 4) (hz : z ≤ 8) (hI : I 57 f = nI z) (i n : Int32) : Con g SHc d 101 [.ref 9, .int (nI f), .int i, .int n] I D (EqP (some (.int (bI (spB i n (nI z))))) I D) := by
  refine Con.mk (LV := v_Fleets_hasSpan) k_Fleets_hasSpan (Nat.le_of_ble_eq_true rfl) (fun K hK => ?_)
  refine hK (0, 36, o_Fleets_hasSpan_0) (List.mem_of_getElem? (i := 0) rfl) _ _ _ _ ?_
  have hfc : (nI f).toNatClampNeg = f := nI_clamp (by omega)
  have h4 : inn (nI f) 4 := inn_nI hf (by decide)
  have e0 : ((0 : Int32)).toInt = 0 := by decide
  have ez : (nI z).toInt = (z : Int) := nI_toInt (by omega)
  have no : spB i n (nI z) = false → EqP (some (.int (bI (spB i n (nI z))))) I D (some (.int 0)) I D := by
    intro h
    rw [h]
    exact And.intro rfl (And.intro rfl rfl)
  refine And.intro (fun c1 => ?_) (fun c1 => ?_)
  · exact And.intro (by decide) (no (by unfold spB; rw [decide_eq_false (i32_nle.mpr c1)]; rfl))
  refine And.intro (fun c2 => ?_) (fun c2 => ?_)
  · exact And.intro (by decide) (no (by unfold spB; rw [decide_eq_false (i32_nle.mpr c2), Bool.and_false]; rfl))
  refine And.intro (h4) ?_
  rw [hfc, hI]
  have h1 := i32_nlt.mp c1
  have h2 := i32_nlt.mp c2
  have g1 := h1
  have g2 := h2
  rw [i32_le, e0] at g1 g2
  refine And.intro (fun c3 => ?_) (fun c3 => ?_)
  · rw [i32_lt, ez] at c3
    exact And.intro (by decide) (no (by unfold spB; rw [ez, decide_eq_false (show ¬ i.toInt + n.toInt ≤ (z : Int) by omega), Bool.and_false]))
  have c3' := i32_nlt.mp c3
  rw [i32_le, ez] at c3'
  refine And.intro (h4) ?_
  rw [hfc, hI]
  have es : (nI z - i).toInt = (z : Int) - i.toInt := by
    rw [Int32.toInt_sub, ez, bm32 (by omega) (by omega)]
  refine And.intro (fun c4 => ?_) (fun c4 => ?_)
  · rw [i32_lt, es] at c4
    exact And.intro (by decide) (no (by unfold spB; rw [ez, decide_eq_false (show ¬ i.toInt + n.toInt ≤ (z : Int) by omega), Bool.and_false]))
  · rw [i32_lt, es] at c4
    have : spB i n (nI z) = true := by
      unfold spB
      rw [ez, decide_eq_true h1, decide_eq_true h2, decide_eq_true (show i.toInt + n.toInt ≤ (z : Int) by omega)]
      rfl
    rw [this]
    exact And.intro (by decide) (And.intro rfl (And.intro rfl rfl))
abbrev mvX (I : MI) (f o i j n : Nat) : Bool × (Nat → Int32) := mvG (I 42) (I 56 o) (fun k => I 58 (8 * f + i + k)) (8 * o + j) (I 58) n
abbrev mvM (I : MI) (f o i j n : Nat) : Bool × (Nat → Int32) := mvG (I 103) (I 110 o) (fun k => I 112 (8 * f + i + k)) (8 * o + j) (I 112) n
theorem c_X_copy (m f o i j n : Nat) (hm : m ≤ 40) (hf : f < 4) (ho : o < 4) (hi : i + n ≤ 8) (hj : j + n ≤ 8) (hP : ∀ k, k < n → shN (I 58 (8 * f + i + k)) m = true) (sc : MI) : Con g SHc (d + 2) 102 [.ref 9, .int (nI (8 * f + i)), .int (nI o), .int (nI j), .int (nI n)] (ovX I sc) D (fun oo J E => E = D ∧ oo = some (.int (bI (mvX I f o i j n).1)) ∧ ∃ sc', J = ovX (upc I 58 (mvX I f o i j n).2) sc') := by
  refine Con.mk (LV := v_Fleets_copy) k_Fleets_copy (Nat.le_of_ble_eq_true rfl) (fun K hK => ?_)
  have loop2 : ∀ r k sc, k + r = n → (mvX I f o i j k).1 = true → (∀ q, q < n → sc 59 q = I 58 (8 * f + i + q)) → K 35 [(0, .ref 9), (2, .int (nI o)), (3, .int (nI j)), (4, .int (nI n)), (5, .int (nI k))] [] (ovX (upc I 58 (mvX I f o i j k).2) sc) D := by
    intro r
    induction r with
    | zero =>
      intro k sc hk hok hc
      have hk : k = n := by omega
      subst hk
      refine hK (35, 88, o_Fleets_copy_2) (List.mem_of_getElem? (i := 2) rfl) _ _ _ _ ?_
      refine And.intro (fun c => ?_) (fun c => ?_)
      · exact And.intro (by decide) ⟨rfl, by rw [hok]; rfl, sc, rfl⟩
      · exact absurd (nI_le (Nat.le_refl _) (by omega)) c
    | succ r ih =>
      intro k sc hk hok hc
      have hkc : (nI k).toNatClampNeg = k := nI_clamp (by omega)
      have h8 : inn (nI k) 8 := inn_nI (by omega) (by decide)
      have ecar : ovX (upc I 58 (mvX I f o i j k).2) sc 59 k = I 58 (8 * f + i + k) := hc k (by omega)
      have nxt : mvX I f o i j (k + 1) = if (mvX I f o i j k).1 = true ∧ tkB (I 42) (I 56 o) (I 58 (8 * f + i + k)) = true then (true, up1 (mvX I f o i j k).2 (8 * o + j + k) (I 58 (8 * f + i + k))) else (false, (mvX I f o i j k).2) := rfl
      refine hK (35, 88, o_Fleets_copy_2) (List.mem_of_getElem? (i := 2) rfl) _ _ _ _ ?_
      refine And.intro (fun c => ?_) (fun c => ?_)
      · exact absurd c (nI_ge (by omega) (by omega))
      refine And.intro (h8) ?_
      rw [hkc]
      have hT : Con g SHc (d + 1) 97 [.ref 9, .int (nI o), .int (ovX (upc I 58 (mvX I f o i j k).2) sc 59 k)] (ovX (upc I 58 (mvX I f o i j k).2) sc) D (EqP (some (.int (bI (tkB (I 42) (I 56 o) (I 58 (8 * f + i + k)))))) (ovX (upc I 58 (mvX I f o i j k).2) sc) D) := by
        rw [ecar]
        exact c_X_takes g d _ D o m ho hm _ (hP k (by omega))
      refine call_eq (hT) ?_
      refine And.intro (fun c2 => ?_) (fun c2 => ?_)
      · have h2 := bI_n0.mp c2
        rw [if_pos ⟨hok, h2⟩] at nxt
        have e : nI o * 8 + nI j + nI k = nI (8 * o + j + k) := by rw [show (8 : Int32) = nI 8 from rfl, pk_mul, nI_add, nI_add, Nat.mul_comm o 8]
        refine And.intro (h8) ?_
        rw [hkc, ecar]
        refine And.intro (by rw [e]; exact inn_nI (by omega) (by decide)) ?_
        rw [e, nI_clamp (show 8 * o + j + k < 2 ^ 31 by omega), ov_n2 _ _ _ _ _ (by rfl), upc_up2]
        have go := ih (k + 1) sc (by omega) (by rw [nxt]) hc
        rw [nxt, nI_succ] at go
        exact go
      · have h2 := bI_0.mp c2
        rw [if_neg (fun z => by rw [h2] at z; exact absurd z.2 (by decide))] at nxt
        have hfin : mvX I f o i j n = (false, (mvX I f o i j k).2) := by
          have := mvG_f (k := k + 1) (show ¬ (mvX I f o i j (k + 1)).1 = true by rw [nxt]; simp) r
          rw [show k + 1 + r = n by omega] at this
          have nxt2 : (mvX I f o i j (k + 1)).2 = (mvX I f o i j k).2 := by rw [nxt]
          exact this.trans (congrArg (fun z => (false, z)) nxt2)
        exact And.intro (by decide) ⟨rfl, by rw [hfin]; rfl, sc, by rw [hfin]⟩
  have loop1 : ∀ r k sc, k + r = n → (∀ q, q < k → sc 59 q = I 58 (8 * f + i + q)) → K 3 [(0, .ref 9), (1, .int (nI (8 * f + i))), (2, .int (nI o)), (3, .int (nI j)), (4, .int (nI n)), (5, .int (nI k))] [] (ovX I sc) D := by
    intro r
    induction r with
    | zero =>
      intro k sc hk hc
      refine hK (3, 35, o_Fleets_copy_1) (List.mem_of_getElem? (i := 1) rfl) _ _ _ _ ?_
      refine And.intro (fun c => ?_) (fun c => ?_)
      · have go := loop2 n 0 sc (by omega) rfl (fun q hq => hc q (by omega))
        rw [show (mvX I f o i j 0).2 = I 58 from rfl, upc_self] at go
        exact go
      · exact absurd (nI_le (by omega) (by omega)) c
    | succ r ih =>
      intro k sc hk hc
      have hkc : (nI k).toNatClampNeg = k := nI_clamp (by omega)
      refine hK (3, 35, o_Fleets_copy_1) (List.mem_of_getElem? (i := 1) rfl) _ _ _ _ ?_
      refine And.intro (fun c => ?_) (fun c => ?_)
      · exact absurd c (nI_ge (by omega) (by omega))
      refine And.intro (by rw [nI_add]; exact inn_nI (by omega) (by decide)) ?_
      refine And.intro (inn_nI (by omega) (by decide)) ?_
      rw [hkc, nI_add, nI_clamp (show 8 * f + i + k < 2 ^ 31 by omega), ov_up2 _ _ _ _ _ (by rfl)]
      have go := ih (k + 1) (up2 sc 59 k (I 58 (8 * f + i + k))) (by omega) (fun q hq => by
        rw [up2_at2]
        by_cases hqk : q = k
        · subst hqk
          rw [if_pos ⟨rfl, rfl⟩]
        · rw [if_neg (fun z => hqk z.2)]
          exact hc q (by omega))
      rw [nI_succ] at go
      exact go
  refine hK (0, 3, o_Fleets_copy_0) (List.mem_of_getElem? (i := 0) rfl) _ _ _ _ ?_
  exact loop1 n 0 sc (by omega) (fun q hq => absurd hq (by omega))
def mvOk (f o : Int32) : Bool := wi f 0 3 && wi o 0 3
theorem c_X_move (m : Nat) (hm : m ≤ 40) (hF : ∀ j, j < 4 → ∃ z, z ≤ 8 ∧ I 57 j = nI z) (hP : ∀ f k, f < 4 → nI k < I 57 f → k < 8 → shN (I 58 (8 * f + k)) m = true) (f i o j n : Int32) (sc : MI) : Con g SHc (d + 3) 99 [.ref 0, .int f, .int i, .int o, .int j, .int n] (ovX I sc) D (fun oo J E => E = D ∧ oo = some (.int (sel5 (mvOk f o) (decide (3000 ≤ I 1 0)) (decide (I 55 f.toNatClampNeg = 0 ∨ I 55 o.toNatClampNeg = 0)) (!(spB i n (I 57 f.toNatClampNeg) && spB j n (I 57 o.toNatClampNeg))) (!(mvX I f.toNatClampNeg o.toNatClampNeg i.toNatClampNeg j.toNatClampNeg n.toNatClampNeg).1) (-2) (-4) (-11) (-12) (-16) n)) ∧ ∃ sc', J = ovX (sel5 (mvOk f o) (decide (3000 ≤ I 1 0)) (decide (I 55 f.toNatClampNeg = 0 ∨ I 55 o.toNatClampNeg = 0)) (!(spB i n (I 57 f.toNatClampNeg) && spB j n (I 57 o.toNatClampNeg))) (!(mvX I f.toNatClampNeg o.toNatClampNeg i.toNatClampNeg j.toNatClampNeg n.toNatClampNeg).1) I I (tellX 1 I) (tellX 2 I) (tellX 6 (upc I 58 (mvX I f.toNatClampNeg o.toNatClampNeg i.toNatClampNeg j.toNatClampNeg n.toNatClampNeg).2)) (upc I 58 (mvX I f.toNatClampNeg o.toNatClampNeg i.toNatClampNeg j.toNatClampNeg n.toNatClampNeg).2)) sc') := by
  refine Con.mk (LV := v_X_move) k_X_move (Nat.le_of_ble_eq_true rfl) (fun K hK => ?_)
  refine hK (0, 135, o_X_move_0) (List.mem_of_getElem? (i := 0) rfl) _ _ _ _ ?_
  unfold mvOk
  refine call_eq (c_X_isFleet g (d + 2) (ovX I sc) D f) ?_
  refine And.intro (fun c1 => ?_) (fun c1 => ?_)
  · rw [bI_0.mp c1]
    exact ⟨rfl, rfl, sc, rfl⟩
  have h1 := bI_n0.mp c1
  rw [h1]
  refine call_eq (c_X_isFleet g (d + 2) (ovX I sc) D o) ?_
  refine And.intro (fun c2 => ?_) (fun c2 => ?_)
  · have h2 := bI_n0.mp c2
    rw [h2]
    obtain ⟨f, hf, rfl⟩ := wi_nI (m := 3) (by decide) h1
    obtain ⟨o, ho, rfl⟩ := wi_nI (m := 3) (by decide) h2
    have hfc : (nI f).toNatClampNeg = f := nI_clamp (by omega)
    have hoc : (nI o).toNatClampNeg = o := nI_clamp (by omega)
    obtain ⟨zf, hzf, hfe⟩ := hF f (by omega)
    obtain ⟨zo, hzo, hoe⟩ := hF o (by omega)
    rw [hfc, hoc, hfe, hoe]
    refine call_eq (c_X_areSpent g (d + 2) (ovX I sc) D) ?_
    refine And.intro (fun c3 => ?_) (fun c3 => ?_)
    · rw [decide_eq_false (show ¬ 3000 ≤ I 1 0 from of_decide_eq_false (bI_0.mp c3))]
      refine call_eq (c_X_isNothing g (d + 2) (ovX I sc) D f (by omega)) ?_
      refine And.intro (fun c4 => ?_) (fun c4 => ?_)
      · have h4 : I 55 f = 0 := of_decide_eq_true (bI_n0.mp c4)
        rw [decide_eq_true (Or.inl h4)]
        refine call_eq (c_X_tell g (d + 2) (ovX I sc) D 1) ?_
        rw [tellX_ov]
        exact ⟨rfl, rfl, sc, rfl⟩
      have h4 : ¬ I 55 f = 0 := of_decide_eq_false (bI_0.mp c4)
      refine call_eq (c_X_isNothing g (d + 2) (ovX I sc) D o (by omega)) ?_
      refine And.intro (fun c5 => ?_) (fun c5 => ?_)
      · have h5 : ¬ I 55 o = 0 := of_decide_eq_false (bI_0.mp c5)
        rw [decide_eq_false (show ¬ (I 55 f = 0 ∨ I 55 o = 0) from fun z => z.elim h4 h5)]
        refine call_eq (c_X_hasSpan g (d + 2) (ovX I sc) D f zf (by omega) hzf hfe i n) ?_
        refine And.intro (fun c6 => ?_) (fun c6 => ?_)
        · rw [bI_0.mp c6]
          refine call_eq (c_X_tell g (d + 2) (ovX I sc) D 2) ?_
          rw [tellX_ov]
          exact ⟨rfl, rfl, sc, rfl⟩
        have h6 := bI_n0.mp c6
        rw [h6]
        refine call_eq (c_X_hasSpan g (d + 2) (ovX I sc) D o zo (by omega) hzo hoe j n) ?_
        refine And.intro (fun c7 => ?_) (fun c7 => ?_)
        · have h7 := bI_n0.mp c7
          rw [h7]
          obtain ⟨i, n, rfl, rfl, hin⟩ := spB_e hzf h6
          obtain ⟨j, n2, rfl, hn2, hjn⟩ := spB_e hzo h7
          have hnn : n2 = n := by
            have := congrArg Int32.toInt hn2
            rw [nI_toInt (by omega), nI_toInt (by omega)] at this
            omega
          subst hnn
          have hic : (nI i).toNatClampNeg = i := nI_clamp (by omega)
          have hjc : (nI j).toNatClampNeg = j := nI_clamp (by omega)
          have hnc : (nI n2).toNatClampNeg = n2 := nI_clamp (by omega)
          rw [hic, hjc, hnc]
          have hC : Con g SHc (d + 2) 102 [.ref 9, .int (nI f * 8 + nI i), .int (nI o), .int (nI j), .int (nI n2)] (ovX I sc) D (fun oo J E => E = D ∧ oo = some (.int (bI (mvX I f o i j n2).1)) ∧ ∃ sc', J = ovX (upc I 58 (mvX I f o i j n2).2) sc') := by
            rw [show nI f * 8 + nI i = nI (8 * f + i) by rw [show (8 : Int32) = nI 8 from rfl, pk_mul, nI_add, Nat.mul_comm f 8]]
            refine c_X_copy g d I D m f o i j n2 hm (by omega) (by omega) (by omega) (by omega) (fun k hk => ?_) sc
            have := hP f (i + k) (by omega) (by rw [hfe]; exact nI_lt (by omega) (by omega)) (by omega)
            rw [← Nat.add_assoc] at this
            exact this
          refine call_of hC ?_
          rintro oo J E ⟨rfl, rfl, sc', rfl⟩
          refine And.intro (fun c8 => ?_) (fun c8 => ?_)
          · rw [bI_0.mp c8]
            refine call_eq (c_X_tell g (d + 2) _ E 6) ?_
            rw [tellX_ov]
            exact ⟨rfl, rfl, sc', rfl⟩
          · rw [bI_n0.mp c8]
            exact ⟨rfl, rfl, sc', rfl⟩
        · rw [bI_0.mp c7]
          refine call_eq (c_X_tell g (d + 2) (ovX I sc) D 2) ?_
          rw [tellX_ov]
          exact ⟨rfl, rfl, sc, rfl⟩
      · have h5 : I 55 o = 0 := of_decide_eq_true (bI_n0.mp c5)
        rw [decide_eq_true (Or.inr h5)]
        refine call_eq (c_X_tell g (d + 2) (ovX I sc) D 1) ?_
        rw [tellX_ov]
        exact ⟨rfl, rfl, sc, rfl⟩
    · rw [decide_eq_true (show 3000 ≤ I 1 0 from of_decide_eq_true (bI_n0.mp c3))]
      exact ⟨rfl, rfl, sc, rfl⟩
  · rw [bI_0.mp c2]
    exact ⟨rfl, rfl, sc, rfl⟩
end S65
