section S61
variable (g : Gp) (d : Nat) (I : MI) (D : MD)
def amP (I : MI) (D : MD) (T : Tr) (sc : MI) (r : AskR) : Po := fun o J E => E = D ∧ o = some (.int r.1) ∧ ∃ sc', J = ovX (trM I (begsT T r.2.2)) sc' ∧ (r.1 = 0 → sc' 12 62 = r.2.1) ∧ sc' 12 87 = sc 12 87
/-- a part that is NOTHING, or a SHIP of lesser depth -/
def okp (rk : Nat → Nat) (m : Nat) (v : Int32) (q : Nat) : Prop := v = -1 ∨ ∃ i, i < m ∧ v = nI i ∧ rk i < q
def rkOk (kd p1 p2 : Nat → Int32) (rk : Nat → Nat) (m : Nat) : Prop := ∀ j, j < m → rk j ≤ 4 ∧ (kd j = 4 → okp rk m (p1 j) (rk j) ∧ okp rk m (p2 j) (rk j))
/-- the piles below top -/
def same3 (top : Nat) (sc sc' : MI) : Prop := ∀ k, k < top → sc' 113 k = sc 113 k ∧ sc' 114 k = sc 114 k ∧ sc' 115 k = sc 115 k
set_option maxHeartbeats 4000000 in
theorem c_M_asks (m : Nat) (hm : m ≤ 40) (rk : Nat → Nat) (hR : rkOk (I 103) (fun j => I 107 (2 * j)) (fun j => I 107 (2 * j + 1)) rk m) (w : Int32) (s0 : Int32) (hs0 : okp rk m s0 5) (T0 : Tr) (hT0 : T0.1 ≤ 100) (sc0 : MI) : Con g SHc (d + 4) 203 [.ref 12, .int s0, .int w] (ovX (trM I T0) sc0) D (amP I D T0 sc0 (askM I w 5 s0)) := by
  refine Con.mk (LV := v_M_asks) k_M_asks (Nat.le_of_ble_eq_true rfl) (fun K hK => ?_)
  have down : ∀ (f : Nat) (s : Int32) (top : Nat) (T : Tr) (sc : MI), okp rk m s f → top + f ≤ 5 → T.1 ≤ 100 →
      (∀ sc', (askM I w f s).1 = 0 → sc' 12 62 = (askM I w f s).2.1 → same3 top sc sc' → sc' 12 87 = sc 12 87 → ∀ at', K 8 [(0, .ref 12), (2, .int w), (3, .int (nI top)), (4, .int at'), (5, .int 0)] [] (ovX (trM I (begsT T (askM I w f s).2.2)) sc') D) →
      (¬ (askM I w f s).1 = 0 → ∀ sc', sc' 12 87 = sc 12 87 → amP I D T0 sc0 (askM I w 5 s0) (some (.int (askM I w f s).1)) (ovX (trM I (begsT T (askM I w f s).2.2)) sc') D) →
      K 8 [(0, .ref 12), (2, .int w), (3, .int (nI top)), (4, .int s), (5, .int 1)] [] (ovX (trM I T) sc) D := by
    intro f
    induction f with
    | zero =>
      intro s top T sc hs htop hT hk hf
      rcases hs with rfl | ⟨i, hi, rfl, hlt⟩
      · refine hK (8, 240, o_M_asks_1) (List.mem_of_getElem? (i := 1) rfl) _ _ _ _ ?_
        refine And.intro (fun _ => ?_) (fun z => absurd z (by decide))
        refine And.intro (fun _ => ?_) (fun z => absurd z (by decide))
        refine And.intro (fun z => absurd rfl z) (fun _ => ?_)
        exact hf (by show ¬ (1 : Int32) = 0; decide) sc rfl
      · exact absurd hlt (Nat.not_lt_zero _)
    | succ f ih =>
      intro s top T sc hs htop hT hk hf
      refine hK (8, 240, o_M_asks_1) (List.mem_of_getElem? (i := 1) rfl) _ _ _ _ ?_
      refine And.intro (fun _ => ?_) (fun z => absurd z (by decide))
      refine And.intro (fun _ => ?_) (fun z => absurd z (by decide))
      rcases hs with rfl | ⟨j, hj, rfl, hlt⟩
      · rw [show askM I w (f + 1) (-1) = (1, 0, []) from askF_no] at hf
        refine And.intro (fun z => absurd rfl z) (fun _ => ?_)
        exact hf (by show ¬ (1 : Int32) = 0; decide) sc rfl
      have hjc : (nI j).toNatClampNeg = j := nI_clamp (by omega)
      have h40 : inn (nI j) 40 := inn_nI (by omega) (by decide)
      refine And.intro (fun _ => ?_) (fun z => absurd z (nI_neg1 (by omega)))
      refine And.intro (h40) ?_
      rw [hjc]
      have own : ¬ (I 103 j = 4 ∧ ¬ w = 1) → wp SHc none (retP (amP I D T0 sc0 (askM I w 5 s0))) (CaD g SHc (d + 4)) v_M_asks K 240 o_M_asks_1 (some 215) [(0, .ref 12), (2, .int w), (3, .int (nI top)), (4, .int (nI j)), (5, .int 1)] [] (ovX (trM I T) sc) D := by
        intro hn
        have eO : askM I w (f + 1) (nI j) = ownA w (I 103 j) (I 104 j) (I 105 j) (I 106 j) := askF_own (by omega) hn
        obtain ⟨r, hr⟩ : ∃ r, r = ownA w (I 103 j) (I 104 j) (I 105 j) (I 106 j) := ⟨_, rfl⟩
        rw [eO, ← hr] at hk hf
        refine call_eq (c_M_asksOne g d I D T hT j (by omega) w sc r hr) ?_
        by_cases q : r.1 = 0
        · rw [if_pos q]
          refine And.intro (fun _ => ?_) (fun z => absurd q z)
          exact hk (up2 sc 12 62 r.2.1) q up2_at (fun k hk => ⟨rfl, rfl, rfl⟩) rfl (nI j)
        · rw [if_neg q]
          refine And.intro (fun z => absurd z q) (fun _ => ?_)
          exact hf q sc rfl
      refine And.intro (fun c1 => ?_) (fun c1 => ?_)
      · exact own (fun z => c1 z.1)
      refine And.intro (fun c2 => ?_) (fun c2 => ?_)
      · exact own (fun z => z.2 c2)
      have c1 : I 103 j = 4 := c1
      have eA : askM I w (f + 1) (nI j) = _ := askF_pr (by omega) ⟨c1, c2⟩
      rw [eA] at hk hf
      obtain ⟨a, ha⟩ : ∃ a, a = askM I w f (I 107 (2 * j)) := ⟨_, rfl⟩
      obtain ⟨b, hb⟩ : ∃ b, b = askM I w f (I 107 (2 * j + 1)) := ⟨_, rfl⟩
      rw [show askF (I 103) (I 104) (I 105) (I 106) (fun j => I 107 (2 * j)) (fun j => I 107 (2 * j + 1)) w f ((fun j => I 107 (2 * j)) j) = a from ha.symm, show askF (I 103) (I 104) (I 105) (I 106) (fun j => I 107 (2 * j)) (fun j => I 107 (2 * j + 1)) w f ((fun j => I 107 (2 * j + 1)) j) = b from hb.symm] at hk hf
      have ihA := ih (I 107 (2 * j)) (top + 1) (begT T (pairBd w))
      have ihB := ih (I 107 (2 * j + 1)) (top + 1) (begsT (begT T (pairBd w)) a.2.2)
      rw [← ha] at ihA
      rw [← hb] at ihB
      obtain ⟨-, hpp⟩ := hR j hj
      obtain ⟨hp1, hp2⟩ := hpp c1
      have wk : ∀ v, okp rk m v (rk j) → okp rk m v f := by
        rintro v (h | ⟨i, h1, h2, h3⟩)
        · exact Or.inl h
        · exact Or.inr ⟨i, h1, h2, by omega⟩
      have htc : (nI top).toNatClampNeg = top := nI_clamp (by omega)
      have ht6 : inn (nI top) 6 := inn_nI (by omega) (by decide)
      have e2 : (2 : Int32) * nI j = nI (2 * j) := pk_mul 2 j
      have e21 : (2 : Int32) * nI j + 1 = nI (2 * j + 1) := by rw [e2, nI_1]
      obtain ⟨sc1, hsc1⟩ : ∃ sc1, sc1 = up2 (up2 sc 113 top (nI j)) 114 top 0 := ⟨_, rfl⟩
      have f1 : sc1 113 top = nI j := by
        rw [hsc1]
        show up2 sc 113 top (nI j) 113 top = nI j
        rw [up2_at]
      have f2 : sc1 114 top = 0 := by
        rw [hsc1, up2_at]
      have f3 : ∀ k, k < top → sc1 113 k = sc 113 k ∧ sc1 114 k = sc 114 k ∧ sc1 115 k = sc 115 k := by
        intro k hk
        rw [hsc1]
        refine ⟨?_, ?_, rfl⟩
        · show up2 sc 113 top (nI j) 113 k = _
          rw [up2_off (by omega)]
        · rw [up2_off (by omega)]
          rfl
      have f4 : sc1 12 87 = sc 12 87 := by rw [hsc1]; rfl
      have push : ∀ Y, Y = pairBd w → wp SHc none (retP (amP I D T0 sc0 (askM I w 5 s0))) (CaD g SHc (d + 4)) v_M_asks K 240 o_M_asks_1 (some 180) [(0, .ref 12), (2, .int w), (3, .int (nI top)), (4, .int (nI j)), (5, .int 1)] [.int Y, .ref 12] (ovX (trM I T) sc) D := by
        intro Y hY
        rw [hY]
        refine call_eq (c_M_begin g (d + 3) I D T hT (pairBd w) sc) ?_
        refine And.intro (ht6) ?_
        refine And.intro (ht6) ?_
        refine And.intro (by rw [e2]; exact inn_nI (by omega) (by decide)) ?_
        rw [htc, e2, nI_clamp (show 2 * j < 2 ^ 31 by omega), ov_up2 _ _ _ _ _ (by rfl), ov_up2 _ _ _ _ _ (by rfl)]
        have go := ihA sc1 (wk _ hp1) (by omega) (begT_le hT _) ?_ ?_
        · rw [hsc1, nI_succ] at go
          exact go
        · -- the first part has answered
          intro sc2 ha0 hv hs3 hpn at'
          have g1 := (hs3 top (by omega)).1
          have g2 := (hs3 top (by omega)).2.1
          rw [f1] at g1
          rw [f2] at g2
          have htp : nI (top + 1) - 1 = nI top := nI_pred top
          have ev : ovX (trM I (begsT (begT T (pairBd w)) a.2.2)) sc2 12 62 = a.2.1 := hv
          refine hK (8, 240, o_M_asks_1) (List.mem_of_getElem? (i := 1) rfl) _ _ _ _ ?_
          refine And.intro (fun z => absurd rfl z) (fun _ => ?_)
          refine And.intro (fun z => absurd z (nI_nle0 (by omega) (by omega))) (fun _ => ?_)
          refine And.intro (fun z => absurd rfl z) (fun _ => ?_)
          refine And.intro (by rw [htp]; exact ht6) ?_
          rw [htp, htc]
          refine And.intro (fun _ => ?_) (fun z => absurd (show sc2 114 top = 0 from g2) z)
          have second : ¬ (w = 4 ∧ a.2.1 = 1) → wp SHc none (retP (amP I D T0 sc0 (askM I w 5 s0))) (CaD g SHc (d + 4)) v_M_asks K 240 o_M_asks_1 (some 81) [(6, .int (nI top)), (0, .ref 12), (2, .int w), (3, .int (nI (top + 1))), (4, .int at'), (5, .int 0)] [] (ovX (trM I (begsT (begT T (pairBd w)) a.2.2)) sc2) D := by
            intro hn
            rw [if_neg (fun z => z.elim (fun q => q ha0) hn)] at hk hf
            obtain ⟨sc3, hsc3⟩ : ∃ sc3, sc3 = up2 (up2 sc2 115 top a.2.1) 114 top 1 := ⟨_, rfl⟩
            refine And.intro (ht6) ?_
            refine And.intro (ht6) ?_
            refine And.intro (ht6) ?_
            rw [htc, ev, nar_1, ov_up2 _ _ _ _ _ (by rfl), ov_up2 _ _ _ _ _ (by rfl)]
            have epl : ovX (trM I (begsT (begT T (pairBd w)) a.2.2)) (up2 (up2 sc2 115 top a.2.1) 114 top 1) 113 top = nI j := g1
            rw [epl]
            refine And.intro (by rw [e21]; exact inn_nI (by omega) (by decide)) ?_
            rw [e21, nI_clamp (show 2 * j + 1 < 2 ^ 31 by omega)]
            have go := ihB sc3 (wk _ hp2) (by omega) (begsT_le _ (begT_le hT _)) ?_ ?_
            · rw [hsc3] at go
              exact go
            · intro sc4 hb0 hv4 hs4 hpn4 at4
              have k2 := (hs4 top (by omega)).2.1
              have k3 := (hs4 top (by omega)).2.2
              rw [hsc3] at k2 k3
              rw [up2_at] at k2
              have k3 : sc4 115 top = a.2.1 := by
                rw [k3]
                show up2 sc2 115 top a.2.1 115 top = _
                rw [up2_at]
              have ev4 : ovX (trM I (begsT (begsT (begT T (pairBd w)) a.2.2) b.2.2)) sc4 12 62 = b.2.1 := hv4
              have ef4 : ovX (trM I (begsT (begsT (begT T (pairBd w)) a.2.2) b.2.2)) sc4 115 top = a.2.1 := k3
              refine hK (8, 240, o_M_asks_1) (List.mem_of_getElem? (i := 1) rfl) _ _ _ _ ?_
              refine And.intro (fun z => absurd rfl z) (fun _ => ?_)
              refine And.intro (fun z => absurd z (nI_nle0 (by omega) (by omega))) (fun _ => ?_)
              refine And.intro (fun z => absurd rfl z) (fun _ => ?_)
              refine And.intro (by rw [htp]; exact ht6) ?_
              rw [htp, htc]
              refine And.intro (fun z => absurd (show (1 : Int32) = 0 by rw [← k2]; exact z) (by decide)) (fun _ => ?_)
              refine And.intro (ht6) ?_
              rw [htc, ef4]
              have hJ : Con g SHc (d + 3) 204 [.int w, .int a.2.1, .int (ovX (trM I (begsT (begsT (begT T (pairBd w)) a.2.2) b.2.2)) sc4 12 62)] (ovX (trM I (begsT (begsT (begT T (pairBd w)) a.2.2) b.2.2)) sc4) D (EqP (some (.int (joinV w a.2.1 b.2.1))) (ovX (trM I (begsT (begsT (begT T (pairBd w)) a.2.2) b.2.2)) sc4) D) := by
                rw [ev4]
                exact c_M_joined g (d + 3) _ _ w a.2.1 b.2.1
              refine call_eq (hJ) ?_
              have go := hk (up2 sc4 12 62 (joinV w a.2.1 b.2.1)) hb0 up2_at (fun k hk2 => ?_) ?_ at4
              · rw [show begsT T (pairBd w :: (a.2.2 ++ b.2.2)) = begsT (begT T (pairBd w)) (a.2.2 ++ b.2.2) from rfl, begsT_app, ← nI_pred' top, ← ov_up2 _ sc4 12 62 (joinV w a.2.1 b.2.1) (by rfl)] at go
                exact go
              · have q4 := hs4 k (by omega)
                have q2 := hs3 k (by omega)
                have q1 := f3 k hk2
                rw [hsc3] at q4
                refine ⟨?_, ?_, ?_⟩
                · exact (q4.1.trans q2.1).trans q1.1
                · refine (q4.2.1.trans ?_).trans q1.2.1
                  rw [up2_off (by omega)]
                  exact q2.2.1
                · refine (q4.2.2.trans ?_).trans q1.2.2
                  show up2 sc2 115 top a.2.1 115 k = _
                  rw [up2_off (by omega)]
                  exact q2.2.2
              · show sc4 12 87 = _
                rw [hpn4, hsc3]
                show sc2 12 87 = _
                rw [hpn, f4]
            · intro hb1 sc4 hpn4
              have go := hf hb1 sc4 (by
                rw [hpn4, hsc3]
                show sc2 12 87 = _
                rw [hpn, f4])
              rw [show begsT T (pairBd w :: (a.2.2 ++ b.2.2)) = begsT (begT T (pairBd w)) (a.2.2 ++ b.2.2) from rfl, begsT_app] at go
              exact go
          refine And.intro (fun c3 => ?_) (fun c3 => ?_)
          · exact second (fun z => c3 z.1)
          refine And.intro (fun c4 => ?_) (fun c4 => ?_)
          · rw [ev] at c4
            exact second (fun z => c4 z.2)
          · rw [ev] at c4
            rw [if_pos (Or.inr ⟨c3, c4⟩)] at hk
            have go := hk sc2 ha0 hv (fun k hk2 => ?_) (by rw [hpn, f4]) at'
            · rw [← nI_pred' top] at go
              exact go
            · have q2 := hs3 k (by omega)
              have q1 := f3 k hk2
              exact ⟨q2.1.trans q1.1, q2.2.1.trans q1.2.1, q2.2.2.trans q1.2.2⟩
        · intro ha1 sc2 hpn
          rw [if_pos (Or.inl ha1)] at hf
          exact hf ha1 sc2 (by rw [hpn, f4])
      refine And.intro (fun c3 => ?_) (fun c3 => ?_)
      · refine And.intro (fun c4 => ?_) (fun c4 => ?_)
        · refine And.intro (fun c5 => ?_) (fun c5 => ?_)
          · exact push 52 (by unfold pairBd; rw [if_neg c3, if_neg c4, if_neg c5])
          · exact push 43 (by unfold pairBd; rw [if_neg c3, if_neg c4, if_pos c5])
        · exact push 32 (by unfold pairBd; rw [if_neg c3, if_pos c4])
      · exact push 12 (by unfold pairBd; rw [if_pos c3])
  refine hK (0, 8, o_M_asks_0) (List.mem_of_getElem? (i := 0) rfl) _ _ _ _ ?_
  refine down 5 s0 0 T0 sc0 hs0 (by omega) hT0 ?_ ?_
  · intro sc' h0 hv _ hpn at'
    refine hK (8, 240, o_M_asks_1) (List.mem_of_getElem? (i := 1) rfl) _ _ _ _ ?_
    refine And.intro (fun z => absurd rfl z) (fun _ => ?_)
    refine And.intro (fun _ => ?_) (fun z => absurd (show nI 0 ≤ 0 by decide) z)
    exact ⟨rfl, by rw [h0], sc', rfl, fun _ => hv, hpn⟩
  · intro h1 sc' hpn
    exact ⟨rfl, rfl, sc', rfl, fun z => absurd z h1, hpn⟩
end S61
