section S66
variable (g : Gp) (d : Nat) (I : MI) (D : MD)
set_option maxHeartbeats 2000000 in
theorem c_M_move (m : Nat) (hm : m ≤ 40) (hF : ∀ j, j < 4 → I 111 j = -1 ∨ ∃ z, z ≤ 8 ∧ I 111 j = nI z) (hP : ∀ f k, f < 4 → nI k < I 111 f → k < 8 → shN (I 112 (8 * f + k)) m = true) (f i o j n : Int32) (sc : MI) : Con g SHc (d + 3) 221 [.ref 12, .int f, .int i, .int o, .int j, .int n] (ovX I sc) D (fun oo J E => E = D ∧ oo = some (.int (sel5 (mvOk f o) (decide (3000 ≤ I 12 2)) (decide (I 111 f.toNatClampNeg = -1 ∨ I 111 o.toNatClampNeg = -1)) (!(spB i n (I 111 f.toNatClampNeg) && spB j n (I 111 o.toNatClampNeg))) (!(mvM I f.toNatClampNeg o.toNatClampNeg i.toNatClampNeg j.toNatClampNeg n.toNatClampNeg).1) (-2) (-4) (-11) (-12) (-16) n)) ∧ ∃ sc', J = ovX (sel5 (mvOk f o) (decide (3000 ≤ I 12 2)) (decide (I 111 f.toNatClampNeg = -1 ∨ I 111 o.toNatClampNeg = -1)) (!(spB i n (I 111 f.toNatClampNeg) && spB j n (I 111 o.toNatClampNeg))) (!(mvM I f.toNatClampNeg o.toNatClampNeg i.toNatClampNeg j.toNatClampNeg n.toNatClampNeg).1) I I (tellM 1 I) (tellM 2 I) (tellM 6 (upc I 112 (mvM I f.toNatClampNeg o.toNatClampNeg i.toNatClampNeg j.toNatClampNeg n.toNatClampNeg).2)) (upc I 112 (mvM I f.toNatClampNeg o.toNatClampNeg i.toNatClampNeg j.toNatClampNeg n.toNatClampNeg).2)) sc') := by
  refine Con.mk (LV := v_M_move) k_M_move (Nat.le_of_ble_eq_true rfl) (fun K hK => ?_)
  unfold mvOk at hK
  refine hK (0, 103, o_M_move_0) (List.mem_of_getElem? (i := 0) rfl) _ _ _ _ ?_
  refine call_eq (c_M_isFleet g (d + 1) (ovX I sc) D f) ?_
  refine And.intro (fun c1 => ?_) (fun c1 => ?_)
  · rw [bI_0.mp c1]
    exact ⟨rfl, rfl, sc, rfl⟩
  have h1 := bI_n0.mp c1
  rw [h1] at hK ⊢
  refine call_eq (c_M_isFleet g (d + 1) (ovX I sc) D o) ?_
  refine And.intro (fun c2 => ?_) (fun c2 => ?_)
  · have h2 := bI_n0.mp c2
    rw [h2] at hK ⊢
    obtain ⟨f, hf, rfl⟩ := wi_nI (m := 3) (by decide) h1
    obtain ⟨o, ho, rfl⟩ := wi_nI (m := 3) (by decide) h2
    have hfc : (nI f).toNatClampNeg = f := nI_clamp (by omega)
    have hoc : (nI o).toNatClampNeg = o := nI_clamp (by omega)
    have hf4 : inn (nI f) 4 := inn_nI (by omega) (by decide)
    have ho4 : inn (nI o) 4 := inn_nI (by omega) (by decide)
    rw [hfc, hoc] at hK ⊢
    refine call_eq (c_M_isFull g (d + 2) (ovX I sc) D) ?_
    refine And.intro (fun c3 => ?_) (fun c3 => ?_)
    · have hfu := decide_eq_false (show ¬ 3000 ≤ I 12 2 from of_decide_eq_false (bI_0.mp c3))
      rw [hfu] at hK ⊢
      refine And.intro (hf4) ?_
      rw [hfc]
      refine And.intro (fun c4 => ?_) (fun c4 => ?_)
      · have c4 : I 111 f = -1 := c4
        rw [decide_eq_true (Or.inl c4)]
        refine call_eq (c_M_fails g (d + 2) (ovX I sc) D 1) ?_
        rw [tellM_ov]
        exact ⟨rfl, rfl, sc, rfl⟩
      have c4 : ¬ I 111 f = -1 := c4
      refine And.intro (ho4) ?_
      rw [hoc]
      refine And.intro (fun c5 => ?_) (fun c5 => ?_)
      · have c5 : ¬ I 111 o = -1 := c5
        have hnu := decide_eq_false (show ¬ (I 111 f = -1 ∨ I 111 o = -1) from fun z => z.elim c4 c5)
        rw [hnu] at hK ⊢
        obtain ⟨zf, hzf, hfe⟩ := (hF f (by omega)).resolve_left c4
        obtain ⟨zo, hzo, hoe⟩ := (hF o (by omega)).resolve_left c5
        have e0 : ((0 : Int32)).toInt = 0 := by decide
        have ezf : (nI zf).toInt = (zf : Int) := nI_toInt (by omega)
        have ezo : (nI zo).toInt = (zo : Int) := nI_toInt (by omega)
        have bad : (spB i n (I 111 f) && spB j n (I 111 o)) = false → CaD g SHc (d + 3) 164 [.ref 12, .int 2] (ovX I sc) D (fun oo J E => E = D ∧ oo = some (.int (sel5 (true && true) false false (!(spB i n (I 111 f) && spB j n (I 111 o))) (!(mvM I f o i.toNatClampNeg j.toNatClampNeg n.toNatClampNeg).1) (-2) (-4) (-11) (-12) (-16) n)) ∧ ∃ sc', J = ovX (sel5 (true && true) false false (!(spB i n (I 111 f) && spB j n (I 111 o))) (!(mvM I f o i.toNatClampNeg j.toNatClampNeg n.toNatClampNeg).1) I I (tellM 1 I) (tellM 2 I) (tellM 6 (upc I 112 (mvM I f o i.toNatClampNeg j.toNatClampNeg n.toNatClampNeg).2)) (upc I 112 (mvM I f o i.toNatClampNeg j.toNatClampNeg n.toNatClampNeg).2)) sc') := by
          intro h
          rw [h]
          refine call_eq (c_M_fails g (d + 2) (ovX I sc) D 2) ?_
          rw [tellM_ov]
          exact ⟨rfl, rfl, sc, rfl⟩
        have go94 : (spB i n (I 111 f) && spB j n (I 111 o)) = false → wp SHc none (retP (fun oo J E => E = D ∧ oo = some (.int (sel5 (true && true) false false (!(spB i n (I 111 f) && spB j n (I 111 o))) (!(mvM I f o i.toNatClampNeg j.toNatClampNeg n.toNatClampNeg).1) (-2) (-4) (-11) (-12) (-16) n)) ∧ ∃ sc', J = ovX (sel5 (true && true) false false (!(spB i n (I 111 f) && spB j n (I 111 o))) (!(mvM I f o i.toNatClampNeg j.toNatClampNeg n.toNatClampNeg).1) I I (tellM 1 I) (tellM 2 I) (tellM 6 (upc I 112 (mvM I f o i.toNatClampNeg j.toNatClampNeg n.toNatClampNeg).2)) (upc I 112 (mvM I f o i.toNatClampNeg j.toNatClampNeg n.toNatClampNeg).2)) sc')) (CaD g SHc (d + 3)) v_M_move K 103 o_M_move_0 (some 94) (lv_args 0 [.ref 12, .int (nI f), .int i, .int (nI o), .int j, .int n]) [] (ovX I sc) D := by
          intro h
          obtain ⟨Post, hC, hk⟩ := bad h
          refine ⟨Post, hC, fun oo J E hp => ?_⟩
          have h' := hk oo J E hp
          obtain ⟨rfl, rfl, sc', rfl⟩ := h'
          exact ⟨rfl, rfl, sc', rfl⟩
        refine And.intro (fun c6 => ?_) (fun c6 => ?_)
        · exact go94 (by unfold spB; rw [decide_eq_false (i32_nle.mpr c6)]; rfl)
        refine And.intro (fun c7 => ?_) (fun c7 => ?_)
        · exact go94 (by unfold spB; rw [decide_eq_false (i32_nle.mpr c7)]; simp)
        refine And.intro (fun c8 => ?_) (fun c8 => ?_)
        · exact go94 (by unfold spB; rw [decide_eq_false (i32_nle.mpr c8)]; simp)
        have g6 := i32_nlt.mp c6
        have g7 := i32_nlt.mp c7
        have g8 := i32_nlt.mp c8
        have k6 := g6
        have k7 := g7
        have k8 := g8
        rw [i32_le, e0] at k6 k7 k8
        have hlt := Int32.toInt_lt n
        have esf : (nI zf - n).toInt = (zf : Int) - n.toInt := by rw [Int32.toInt_sub, ezf, bm32 (by omega) (by omega)]
        have eso : (nI zo - n).toInt = (zo : Int) - n.toInt := by rw [Int32.toInt_sub, ezo, bm32 (by omega) (by omega)]
        refine And.intro (hf4) ?_
        rw [hfc]
        refine And.intro (fun c9 => ?_) (fun c9 => ?_)
        · refine go94 ?_
          have c9 : I 111 f - n < i := c9
          rw [hfe, i32_lt, esf] at c9
          unfold spB
          rw [hfe, ezf, decide_eq_false (show ¬ i.toInt + n.toInt ≤ (zf : Int) by omega), Bool.and_false]
          rfl
        have c9 : ¬ I 111 f - n < i := c9
        rw [hfe, i32_lt, esf] at c9
        refine And.intro (ho4) ?_
        rw [hoc]
        refine And.intro (fun c10 => ?_) (fun c10 => ?_)
        · have c10 : j ≤ I 111 o - n := c10
          rw [hoe, i32_le, eso] at c10
          have s1 : spB i n (I 111 f) = true := by
            unfold spB
            rw [hfe, ezf, decide_eq_true g6, decide_eq_true g8, decide_eq_true (show i.toInt + n.toInt ≤ (zf : Int) by omega)]
            rfl
          have s2 : spB j n (I 111 o) = true := by
            unfold spB
            rw [hoe, ezo, decide_eq_true g7, decide_eq_true g8, decide_eq_true (show j.toInt + n.toInt ≤ (zo : Int) by omega)]
            rfl
          rw [s1, s2] at hK
          clear bad go94
          rw [hfe] at s1
          rw [hoe] at s2
          obtain ⟨i, n, rfl, rfl, hin⟩ := spB_e hzf s1
          obtain ⟨j, n2, rfl, hn2, hjn⟩ := spB_e hzo s2
          have hnn : n2 = n := by
            have := congrArg Int32.toInt hn2
            rw [nI_toInt (by omega), nI_toInt (by omega)] at this
            omega
          subst hnn
          have hic : (nI i).toNatClampNeg = i := nI_clamp (by omega)
          have hjc : (nI j).toNatClampNeg = j := nI_clamp (by omega)
          have hnc : (nI n2).toNatClampNeg = n2 := nI_clamp (by omega)
          rw [hic, hjc, hnc] at hK
          have loop2 : ∀ r k sc, k + r = n2 → (mvM I f o i j k).1 = true → (∀ q, q < n2 → sc 116 q = I 112 (8 * f + i + q)) → K 140 [(0, .ref 12), (3, .int (nI o)), (4, .int (nI j)), (5, .int (nI n2)), (6, .int (nI k))] [] (ovX (upc I 112 (mvM I f o i j k).2) sc) D := by
            intro r
            induction r with
            | zero =>
              intro k sc hk hok hc
              have hk : k = n2 := by omega
              subst hk
              refine hK (140, 200, o_M_move_2) (List.mem_of_getElem? (i := 2) rfl) _ _ _ _ ?_
              rw [hok]
              refine And.intro (fun c => ?_) (fun c => ?_)
              · exact ⟨rfl, rfl, sc, rfl⟩
              · exact absurd (nI_le (Nat.le_refl _) (by omega)) c
            | succ r ih =>
              intro k sc hk hok hc
              have hkc : (nI k).toNatClampNeg = k := nI_clamp (by omega)
              have h8 : inn (nI k) 8 := inn_nI (by omega) (by decide)
              have ecar : ovX (upc I 112 (mvM I f o i j k).2) sc 116 k = I 112 (8 * f + i + k) := hc k (by omega)
              have nxt : mvM I f o i j (k + 1) = if (mvM I f o i j k).1 = true ∧ tkB (I 103) (I 110 o) (I 112 (8 * f + i + k)) = true then (true, up1 (mvM I f o i j k).2 (8 * o + j + k) (I 112 (8 * f + i + k))) else (false, (mvM I f o i j k).2) := rfl
              refine hK (140, 200, o_M_move_2) (List.mem_of_getElem? (i := 2) rfl) _ _ _ _ ?_
              refine And.intro (fun c => ?_) (fun c => ?_)
              · exact absurd c (nI_ge (by omega) (by omega))
              refine And.intro (h8) ?_
              rw [hkc]
              have hT : Con g SHc (d + 2) 219 [.ref 12, .int (nI o), .int (ovX (upc I 112 (mvM I f o i j k).2) sc 116 k)] (ovX (upc I 112 (mvM I f o i j k).2) sc) D (EqP (some (.int (bI (tkB (I 103) (I 110 o) (I 112 (8 * f + i + k)))))) (ovX (upc I 112 (mvM I f o i j k).2) sc) D) := by
                rw [ecar]
                have hv := hP f (i + k) (by omega) (by rw [hfe]; exact nI_lt (by omega) (by omega)) (by omega)
                rw [← Nat.add_assoc] at hv
                exact c_M_takes g (d + 1) _ D o m (by omega) hm _ hv
              refine call_eq (hT) ?_
              refine And.intro (fun c2 => ?_) (fun c2 => ?_)
              · have h2 := bI_n0.mp c2
                rw [if_pos ⟨hok, h2⟩] at nxt
                have e : 8 * nI o + nI j + nI k = nI (8 * o + j + k) := by rw [show 8 * nI o + nI j = nI (8 * o + j) from nI_lin' 8 o j, nI_add]
                refine And.intro (h8) ?_
                rw [hkc, ecar]
                refine And.intro (by rw [e]; exact inn_nI (by omega) (by decide)) ?_
                rw [e, nI_clamp (show 8 * o + j + k < 2 ^ 31 by omega), ov_n2 _ _ _ _ _ (by rfl), upc_up2]
                have go := ih (k + 1) sc (by omega) (by rw [nxt]) hc
                rw [nxt, nI_succ] at go
                exact go
              · have h2 := bI_0.mp c2
                rw [if_neg (fun z => by rw [h2] at z; exact absurd z.2 (by decide))] at nxt
                have hfin : mvM I f o i j n2 = (false, (mvM I f o i j k).2) := by
                  have := mvG_f (k := k + 1) (show ¬ (mvM I f o i j (k + 1)).1 = true by rw [nxt]; simp) r
                  rw [show k + 1 + r = n2 by omega] at this
                  have nxt2 : (mvM I f o i j (k + 1)).2 = (mvM I f o i j k).2 := by rw [nxt]
                  exact this.trans (congrArg (fun z => (false, z)) nxt2)
                rw [hfin]
                refine call_eq (c_M_fails g (d + 2) _ D 6) ?_
                rw [tellM_ov]
                exact ⟨rfl, rfl, sc, rfl⟩
          have loop1 : ∀ r k sc, k + r = n2 → (∀ q, q < k → sc 116 q = I 112 (8 * f + i + q)) → K 103 [(0, .ref 12), (1, .int (nI f)), (2, .int (nI i)), (3, .int (nI o)), (4, .int (nI j)), (5, .int (nI n2)), (6, .int (nI k))] [] (ovX I sc) D := by
            intro r
            induction r with
            | zero =>
              intro k sc hk hc
              refine hK (103, 140, o_M_move_1) (List.mem_of_getElem? (i := 1) rfl) _ _ _ _ ?_
              refine And.intro (fun c => ?_) (fun c => ?_)
              · have go := loop2 n2 0 sc (by omega) rfl (fun q hq => hc q (by omega))
                rw [show (mvM I f o i j 0).2 = I 112 from rfl, upc_self] at go
                exact go
              · exact absurd (nI_le (by omega) (by omega)) c
            | succ r ih =>
              intro k sc hk hc
              have hkc : (nI k).toNatClampNeg = k := nI_clamp (by omega)
              have e : 8 * nI f + nI i + nI k = nI (8 * f + i + k) := by rw [show 8 * nI f + nI i = nI (8 * f + i) from nI_lin' 8 f i, nI_add]
              refine hK (103, 140, o_M_move_1) (List.mem_of_getElem? (i := 1) rfl) _ _ _ _ ?_
              refine And.intro (fun c => ?_) (fun c => ?_)
              · exact absurd c (nI_ge (by omega) (by omega))
              refine And.intro (by rw [e]; exact inn_nI (by omega) (by decide)) ?_
              refine And.intro (inn_nI (by omega) (by decide)) ?_
              rw [hkc, e, nI_clamp (show 8 * f + i + k < 2 ^ 31 by omega), ov_up2 _ _ _ _ _ (by rfl)]
              have go := ih (k + 1) (up2 sc 116 k (I 112 (8 * f + i + k))) (by omega) (fun q hq => by
                rw [up2_at2]
                by_cases hqk : q = k
                · subst hqk
                  rw [if_pos ⟨rfl, rfl⟩]
                · rw [if_neg (fun z => hqk z.2)]
                  exact hc q (by omega))
              rw [nI_succ] at go
              exact go
          exact loop1 n2 0 sc (by omega) (fun q hq => absurd hq (by omega))
        · refine go94 ?_
          have c10 : ¬ j ≤ I 111 o - n := c10
          rw [hoe, i32_le, eso] at c10
          unfold spB
          rw [hoe, ezo, decide_eq_false (show ¬ j.toInt + n.toInt ≤ (zo : Int) by omega), Bool.and_false, Bool.and_false]
      · have c5 : I 111 o = -1 := c5
        rw [decide_eq_true (Or.inr c5)]
        refine call_eq (c_M_fails g (d + 2) (ovX I sc) D 1) ?_
        rw [tellM_ov]
        exact ⟨rfl, rfl, sc, rfl⟩
    · rw [decide_eq_true (show 3000 ≤ I 12 2 from of_decide_eq_true (bI_n0.mp c3))]
      exact ⟨rfl, rfl, sc, rfl⟩
  · rw [bI_0.mp c2]
    exact ⟨rfl, rfl, sc, rfl⟩
end S66
