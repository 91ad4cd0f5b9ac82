section S53
variable (g : Gp) (d : Nat) (I : MI) (D : MD)
def fmI (I : MI) (W : Wt) : MI := upc (upc I 98 W.2.1) 99 W.2.2.1
def fmD (D : MD) (W : Wt) : MD := upc D 100 W.2.2.2
def fmX (I : MI) (s : Nat) (W : Wt) : MI := up2 (fmI I W) 97 s (nI W.1)
theorem fmI_t (s : Nat) (W : Wt) (m : Int32) (hi : Bool) (v : UInt64) : up2 (up2 (fmI I W) 98 (40 * s + W.1) m) 99 (40 * s + W.1) (bI hi) = fmI I (wtT s W m hi v) := by
  unfold fmI wtT
  funext a b
  simp only [up2_at2, upc_at, up1]
  by_cases h1 : a = 98
  · subst h1; simp
  · by_cases h2 : a = 99
    · subst h2; simp
    · simp [h1, h2]
theorem fmD_t (s : Nat) (W : Wt) (m : Int32) (hi : Bool) (v : UInt64) : up2 (fmD D W) 100 (40 * s + W.1) v = fmD D (wtT s W m hi v) := by
  unfold fmD wtT
  exact upc_up2 _ _ _ _ _
theorem fmI_0 (a : Nat) (G : Nat → UInt64) : fmI I (a, I 98, I 99, G) = I := by
  unfold fmI
  rw [upc_self, upc_self]
theorem fmD_0 (a : Nat) (G H : Nat → Int32) : fmD D (a, G, H, D 100) = D := by
  unfold fmD
  exact upc_self _ _
abbrev wsM (I : MI) (D : MD) (n s f sp k : Nat) : Nat → Wt := wsG (fun t => hgM I n (nI s) t) s f sp k (0, I 98, I 99, D 100)
abbrev wwM (I : MI) (D : MD) (n sp : Nat) (s f k : Int32) : Wt := wsM I D n s.toNatClampNeg f.toNatClampNeg sp k.toNatClampNeg (k.toNatClampNeg - 2)
set_option maxHeartbeats 4000000 in
theorem c_M_waters {n m tk fd b h : Nat} (hB : KM I n m tk fd b h) (sp : Nat) (hsp : sp ≤ 60) (hst : I 12 28 = nI sp) (s f k : Int32) (sc : MI) (sd : MD) : Con g SHc (d + 4) 188 [.ref 12, .int s, .int f, .int k] (ovX I sc) (ovD D sd)
    (Sc (some (.int (sel3 (wsOk s f k (nI sp)) (decide (3000 ≤ I 12 2)) (decide (sfM I s f (I 12 0) n = -1)) (-2) (-4) (-11) (nI (wwM I D n sp s f k).1)))) (sel3 (wsOk s f k (nI sp)) (decide (3000 ≤ I 12 2)) (decide (sfM I s f (I 12 0) n = -1)) I I (tellM 1 I) (fmX I s.toNatClampNeg (wwM I D n sp s f k))) (sel3 (wsOk s f k (nI sp)) (decide (3000 ≤ I 12 2)) (decide (sfM I s f (I 12 0) n = -1)) D D D (fmD D (wwM I D n sp s f k)))) := by
  refine Con.mk (LV := v_M_waters2) k_M_waters2 (Nat.le_of_ble_eq_true rfl) (fun K hK => ?_)
  have hst' : ovX I sc 12 28 = nI sp := hst
  refine hK (0, 82, o_M_waters2_0) (List.mem_of_getElem? (i := 0) rfl) _ _ _ _ ?_
  have no : wsOk s f k (nI sp) = false → Sc (some (.int (sel3 (wsOk s f k (nI sp)) (decide (3000 ≤ I 12 2)) (decide (sfM I s f (I 12 0) n = -1)) (-2) (-4) (-11) (nI (wwM I D n sp s f k).1)))) (sel3 (wsOk s f k (nI sp)) (decide (3000 ≤ I 12 2)) (decide (sfM I s f (I 12 0) n = -1)) I I (tellM 1 I) (fmX I s.toNatClampNeg (wwM I D n sp s f k))) (sel3 (wsOk s f k (nI sp)) (decide (3000 ≤ I 12 2)) (decide (sfM I s f (I 12 0) n = -1)) D D D (fmD D (wwM I D n sp s f k))) (some (.int (-2))) (ovX I sc) (ovD D sd) := by
    intro h
    rw [h]
    exact sc_of
  refine call_eq (c_M_isStation g (d + 2) (ovX I sc) (ovD D sd) s) ?_
  refine And.intro (fun c1 => ?_) (fun c1 => ?_)
  · exact no (by unfold wsOk; rw [bI_0.mp c1]; rfl)
  refine call_eq (c_M_in g (d + 3) (ovX I sc) (ovD D sd) k 3 200) ?_
  refine And.intro (fun c2 => ?_) (fun c2 => ?_)
  · exact no (by unfold wsOk; rw [bI_0.mp c2, Bool.and_false]; rfl)
  refine call_eq (c_M_isMoment g (d + 2) (ovX I sc) (ovD D sd) f) ?_
  refine And.intro (fun c3 => ?_) (fun c3 => ?_)
  · exact no (by unfold wsOk; rw [bI_0.mp c3, Bool.and_false]; rfl)
  obtain ⟨s', hs, rfl⟩ := wi_nI (m := 11) (by decide) (bI_n0.mp c1)
  obtain ⟨k', hk3, hk, rfl⟩ := wi_ab (a := 3) (b := 200) (by decide) (by decide) (bI_n0.mp c2)
  obtain ⟨f', hf, rfl⟩ := wi_nI (m := 2591999) (by decide) (bI_n0.mp c3)
  obtain ⟨q1, q2⟩ := wsOk_sum hf hk3 hk hsp
  have eM : nI f' + (nI k' - 1) * (60 * nI sp) = nI (f' + 60 * sp * (k' - 1)) := by
    rw [show nI k' - 1 = nI (k' - 1) from nI_sub (a := k') (b := 1) (by omega), tm_M]
  have h60 : ∀ a : Int32, a = nI sp → 60 * a = 60 * nI sp := fun a h => by rw [h]
  refine And.intro (fun c4 => ?_) (fun c4 => ?_)
  · have c4 : nI f' + (nI k' - 1) * (60 * ovX I sc 12 28) ≤ nI 2591999 := c4
    rw [hst', eM, nI_leI q2 (by decide)] at c4
    have hok : wsOk (nI s') (nI f') (nI k') (nI sp) = true := by
      unfold wsOk
      rw [bI_n0.mp c1, bI_n0.mp c2, bI_n0.mp c3, q1]
      unfold wi
      have hle : nI (f' + 60 * sp * (k' - 1)) ≤ (2591999 : Int32) := show nI (f' + 60 * sp * (k' - 1)) ≤ nI 2591999 from nI_le c4 (by decide)
      rw [decide_eq_true (nI_pos' q2), decide_eq_true hle]
      rfl
    rw [hok] at hK ⊢
    clear no
    have hsc : (nI s').toNatClampNeg = s' := nI_clamp (by omega)
    have hkc : (nI k').toNatClampNeg = k' := nI_clamp (by omega)
    have hfc : (nI f').toNatClampNeg = f' := nI_clamp (by omega)
    have eW : wwM I D n sp (nI s') (nI f') (nI k') = wsM I D n s' f' sp k' (k' - 2) := by
      unfold wwM
      rw [hsc, hkc, hfc]
    rw [eW, hsc] at hK ⊢
    refine call_eq (c_M_isFull g (d + 3) (ovX I sc) (ovD D sd)) ?_
    refine And.intro (fun c5 => ?_) (fun c5 => ?_)
    · have hfu : decide (3000 ≤ I 12 2) = false := decide_eq_false (show ¬ 3000 ≤ I 12 2 from of_decide_eq_false (bI_0.mp c5))
      rw [hfu] at hK ⊢
      have hR : Con g SHc (d + 3) 162 [.ref 12, .int (nI s'), .int (nI f'), .int (I 12 0)] (ovX I sc) (ovD D sd) (EqP (some (.int (bI (!decide (sfM I (nI s') (nI f') (I 12 0) n = -1))))) (ovX I sc) (if sfM I (nI s') (nI f') (I 12 0) n = -1 then ovD D sd else up2 (ovD D sd) 12 17 (hgtM I n (nI s') (nI f') (I 12 0)))) := c_M_rises g (d + 2) (ovX I sc) (ovD D sd) (nI s') (nI f') (I 12 0) n hB.1.1 hB.1.2.1 hB.1.2.2
      refine call_eq (hR) ?_
      by_cases c6 : sfM I (nI s') (nI f') (I 12 0) n = -1
      · rw [decide_eq_true c6, if_pos c6]
        refine And.intro (fun z => absurd rfl z) (fun _ => ?_)
        refine call_eq (c_M_fails g (d + 3) (ovX I sc) (ovD D sd) 1) ?_
        rw [tellM_ov]
        exact sc_of
      rw [decide_eq_false c6] at hK ⊢
      rw [if_neg c6, od_up2 _ _ _ _ _ rfl]
      refine And.intro (fun _ => ?_) (fun z => absurd z (by decide))
      have hk1 : nI k' - 1 = nI (k' - 1) := nI_sub (a := k') (b := 1) (by omega)
      have hs12 : inn (nI s') 12 := inn_nI (by omega) (by decide)
      have eix : ∀ c, 40 * nI s' + nI c = nI (40 * s' + c) := fun c => nI_lin' 40 s' c
      have fin : ∀ W sd, W = wsM I D n s' f' sp k' (k' - 2) → K 327 [(0, .ref 12), (1, .int (nI s')), (5, .int (nI W.1))] [] (ovX (fmI I W) sc) (ovD (fmD D W) sd) := by
        intro W sd hW
        rw [← hW] at hK
        refine hK (327, 338, o_M_waters2_5) (List.mem_of_getElem? (i := 5) rfl) _ _ _ _ ?_
        refine And.intro (hs12) ?_
        rw [hsc, ov_n2 _ _ _ _ _ (by rfl)]
        exact sc_of
      have loop : ∀ r i, i + r = k' - 2 → ∀ W sd, W = wsM I D n s' f' sp k' i → (∀ j, j < k' → sd 102 j = hgM I n (nI s') (nI (f' + 60 * sp * j))) → K 119 [(0, .ref 12), (1, .int (nI s')), (2, .int (nI f')), (3, .int (nI k')), (4, .int (60 * nI sp)), (5, .int (nI W.1)), (6, .int (nI (i + 1)))] [] (ovX (fmI I W) sc) (ovD (fmD D W) sd) := by
        intro r
        induction r with
        | zero =>
          intro i hi W sd hW hm
          refine hK (119, 179, o_M_waters2_2) (List.mem_of_getElem? (i := 2) rfl) _ _ _ _ ?_
          refine And.intro (fun c => ?_) (fun c => ?_)
          · exact fin W sd (by rw [hW, show i = k' - 2 by omega])
          · exact absurd (by rw [hk1]; exact nI_le (by omega) (by omega)) c
        | succ r ih =>
          intro i hi W sd hW hm
          have hW40 : W.1 ≤ 40 := by
            rw [hW]
            exact wtS_le _ _ _ _ _ (Nat.zero_le _) i
          obtain ⟨be, hbe⟩ : ∃ be, be = hgM I n (nI s') (nI (f' + 60 * sp * i)) := ⟨_, rfl⟩
          obtain ⟨he, hhe⟩ : ∃ he, he = hgM I n (nI s') (nI (f' + 60 * sp * (i + 1))) := ⟨_, rfl⟩
          obtain ⟨bh, hbh⟩ : ∃ bh, bh = hgM I n (nI s') (nI (f' + 60 * sp * (i + 2))) := ⟨_, rfl⟩
          have m0 : ovD (fmD D W) sd 102 (nI (i + 1) - 1).toNatClampNeg = be := by
            rw [nI_pred, nI_clamp (by omega), hbe]
            exact hm i (by omega)
          have m1 : ovD (fmD D W) sd 102 (nI (i + 1)).toNatClampNeg = he := by
            rw [nI_clamp (by omega), hhe]
            exact hm (i + 1) (by omega)
          have m2 : ovD (fmD D W) sd 102 (nI (i + 1) + 1).toNatClampNeg = bh := by
            rw [nI_1, nI_clamp (by omega), hbh]
            exact hm (i + 2) (by omega)
          have b0 : inn (nI (i + 1) - 1) 200 := by rw [nI_pred]; exact inn_nI (by omega) (by decide)
          have b1 : inn (nI (i + 1)) 200 := inn_nI (by omega) (by decide)
          have b2 : inn (nI (i + 1) + 1) 200 := by rw [nI_1]; exact inn_nI (by omega) (by decide)
          obtain ⟨hi', hhi⟩ : ∃ hi', hi' = hiB be he bh := ⟨_, rfl⟩
          obtain ⟨lo', hlo⟩ : ∃ lo', lo' = loB be he bh := ⟨_, rfl⟩
          have nxt : wsM I D n s' f' sp k' (i + 1) = if W.1 < 40 ∧ (hi' || lo') = true then wtT s' W (nI (hvN (fun m => upB hi' (hgM I n (nI s') (nI m)) (hgM I n (nI s') (nI (m + 1)))) 32 (f' + 60 * sp * i) (f' + 60 * sp * i + 120 * sp))) hi' (hgM I n (nI s') (nI (hvN (fun m => upB hi' (hgM I n (nI s') (nI m)) (hgM I n (nI s') (nI (m + 1)))) 32 (f' + 60 * sp * i) (f' + 60 * sp * i + 120 * sp)))) else W := by
            rw [hhi, hlo, hbe, hhe, hbh, hW]
            rfl
          refine hK (119, 179, o_M_waters2_2) (List.mem_of_getElem? (i := 2) rfl) _ _ _ _ ?_
          refine And.intro (fun c => ?_) (fun c => ?_)
          · rw [hk1] at c
            exact absurd c (nI_ge (by omega) (by omega))
          refine And.intro (fun c0 => ?_) (fun c0 => ?_)
          · have h40 : 40 ≤ W.1 := by
              rcases Nat.lt_or_ge W.1 40 with h | h
              · exact absurd (show nI 40 ≤ nI W.1 from c0) (nI_ge h (by omega))
              · exact h
            refine fin W sd ?_
            have := wtS_full (k := r + 1) (i := i) (show 40 ≤ (wsM I D n s' f' sp k' i).1 by rw [← hW]; exact h40)
            rw [show k' - 2 = i + (r + 1) by omega, hW]
            exact this.symm
          have h40 : W.1 < 40 := by
            rcases Nat.lt_or_ge W.1 40 with h | h
            · exact h
            · exact absurd (show nI 40 ≤ nI W.1 from nI_le h (by omega)) c0
          have k3 : K 226 [(0, .ref 12), (1, .int (nI s')), (2, .int (nI f')), (3, .int (nI k')), (4, .int (60 * nI sp)), (5, .int (nI W.1)), (6, .int (nI (i + 1))), (7, .int (bI hi'))] [.int (bI lo')] (ovX (fmI I W) sc) (ovD (fmD D W) sd) := by
            have skip : (hi' || lo') = false → K 119 [(0, .ref 12), (1, .int (nI s')), (2, .int (nI f')), (3, .int (nI k')), (4, .int (60 * nI sp)), (5, .int (nI W.1)), (6, .int (nI (i + 1) + 1))] [] (ovX (fmI I W) sc) (ovD (fmD D W) sd) := by
              intro h
              rw [if_neg (by rw [h]; exact fun z => absurd z.2 (by decide))] at nxt
              have go := ih (i + 1) (by omega) W sd nxt.symm hm
              rw [nI_succ (i + 1)] at go
              exact go
            obtain ⟨V, hV⟩ : ∃ V, V = nI (hvN (fun m => upB hi' (hgM I n (nI s') (nI m)) (hgM I n (nI s') (nI (m + 1)))) 32 (f' + 60 * sp * i) (f' + 60 * sp * i + 120 * sp)) := ⟨_, rfl⟩
            rw [← hV] at nxt
            have hmul : 60 * sp * (i + 2) ≤ 60 * sp * (k' - 1) := Nat.mul_le_mul_left _ (by omega)
            have hmul2 : 60 * sp * (i + 2) = 60 * sp * i + 120 * sp := by rw [Nat.mul_add]; omega
            have hHa : Con g SHc (d + 3) 190 [.ref 12, .int (nI s'), .int (nI f' + (nI (i + 1) - 1) * (60 * nI sp)), .int (nI f' + (nI (i + 1) + 1) * (60 * nI sp)), .int (bI hi')] (ovX (fmI I W) sc) (ovD (fmD D W) sd) (fun o J E => o = some (.int V) ∧ J = ovX (fmI I W) sc ∧ ∃ v, E = ovD (fmD D W) (up2 sd 12 17 v)) := by
              rw [nI_pred, nI_1, tm_M, tm_M, show f' + 60 * sp * (i + 1 + 1) = f' + 60 * sp * i + 120 * sp by rw [show i + 1 + 1 = i + 2 from rfl]; omega, hV]
              exact c_M_halved g d (fmI I W) (fmD D W) n hB.1.1 hB.1.2.1 hB.1.2.2 (nI s') (f' + 60 * sp * i) (f' + 60 * sp * i + 120 * sp) (by omega) (by omega) hi' sc sd
            have hHe : ∀ J u, J = up2 (up2 (fmI I W) 98 (40 * s' + W.1) V) 99 (40 * s' + W.1) (bI hi') → Con g SHc (d + 3) 189 [.ref 12, .int (nI s'), .int V] (ovX J sc) (ovD (fmD D W) (up2 sd 12 17 u)) (EqP (some (.double (hgM I n (nI s') V))) (ovX J sc) (ovD (fmD D W) (up2 sd 12 17 (hgM I n (nI s') V)))) := by
              intro J u hJ
              subst hJ
              have := c_M_heightAt g (d + 1) (up2 (up2 (fmI I W) 98 (40 * s' + W.1) V) 99 (40 * s' + W.1) (bI hi')) (fmD D W) n hB.1.1 hB.1.2.1 hB.1.2.2 (nI s') V sc (up2 sd 12 17 u)
              rw [up2_up2] at this
              exact this
            have hix : inn (40 * nI s' + nI W.1) 480 := by rw [eix]; exact inn_nI (by omega) (by decide)
            have ec : (nI (40 * s' + W.1)).toNatClampNeg = 40 * s' + W.1 := nI_clamp (by omega)
            have take : (hi' || lo') = true → K 119 [(0, .ref 12), (1, .int (nI s')), (2, .int (nI f')), (3, .int (nI k')), (4, .int (60 * nI sp)), (5, .int (nI W.1 + 1)), (6, .int (nI (i + 1) + 1))] [] (ovX (up2 (up2 (fmI I W) 98 (40 * s' + W.1) V) 99 (40 * s' + W.1) (bI hi')) sc) (ovD (up2 (fmD D W) 100 (40 * s' + W.1) (hgM I n (nI s') V)) (up2 sd 12 17 (hgM I n (nI s') V))) := by
              intro h
              rw [if_pos ⟨h40, h⟩] at nxt
              have go := ih (i + 1) (by omega) _ (up2 sd 12 17 (hgM I n (nI s') V)) nxt.symm hm
              rw [nI_succ (i + 1), show (wtT s' W V hi' (hgM I n (nI s') V)).1 = W.1 + 1 from rfl, nI_succ] at go
              rw [fmI_t I s' W V hi' (hgM I n (nI s') V), fmD_t D s' W V hi' (hgM I n (nI s') V)]
              exact go
            have body : (hi' || lo') = true → wp SHc none (retP (Sc (some (.int (sel3 true false false (-2) (-4) (-11) (nI (wsM I D n s' f' sp k' (k' - 2)).1)))) (sel3 true false false I I (tellM 1 I) (fmX I s' (wsM I D n s' f' sp k' (k' - 2)))) (sel3 true false false D D D (fmD D (wsM I D n s' f' sp k' (k' - 2)))))) (CaD g SHc (d + 4)) v_M_waters2 K 327 o_M_waters2_4 (some 238) [(8, .int (bI lo')), (0, .ref 12), (1, .int (nI s')), (2, .int (nI f')), (3, .int (nI k')), (4, .int (60 * nI sp)), (5, .int (nI W.1)), (6, .int (nI (i + 1))), (7, .int (bI hi'))] [] (ovX (fmI I W) sc) (ovD (fmD D W) sd) := by
              intro h
              have tk := take h
              refine call_of hHa ?_
              rintro o J E ⟨rfl, rfl, v, rfl⟩
              refine And.intro (hix) ?_
              refine And.intro (hix) ?_
              refine And.intro (hix) ?_
              rw [eix, ec, bnar, ov_n2 _ _ _ _ _ (by rfl), ov_n2 _ _ _ _ _ (by rfl)]
              have hV2 : ovX (up2 (up2 (fmI I W) 98 (40 * s' + W.1) V) 99 (40 * s' + W.1) (bI hi')) sc 98 (40 * s' + W.1) = V := by
                show up2 (fmI I W) 98 (40 * s' + W.1) V 98 (40 * s' + W.1) = V
                rw [up2_at]
              rw [hV2]
              refine call_eq (hHe _ v rfl) ?_
              refine And.intro (by rw [← eix]; exact hix) ?_
              rw [ec, od_n2 _ _ _ _ _ (by rfl)]
              exact tk
            refine hK (226, 327, o_M_waters2_4) (List.mem_of_getElem? (i := 4) rfl) _ _ _ _ ?_
            cases hq : hi' with
            | true =>
              rw [hq] at body
              refine And.intro (fun _ => ?_) (fun z => absurd z (by decide))
              exact body rfl
            | false =>
              rw [hq] at body skip
              refine And.intro (fun z => absurd rfl z) (fun _ => ?_)
              cases hl : lo' with
              | true =>
                rw [hl] at body
                refine And.intro (fun z => absurd z (by decide)) (fun _ => ?_)
                exact body rfl
              | false =>
                rw [hl] at skip
                refine And.intro (fun _ => ?_) (fun z => absurd rfl z)
                exact skip rfl
          have k2 : K 179 [(0, .ref 12), (1, .int (nI s')), (2, .int (nI f')), (3, .int (nI k')), (4, .int (60 * nI sp)), (5, .int (nI W.1)), (6, .int (nI (i + 1)))] [.int (bI hi')] (ovX (fmI I W) sc) (ovD (fmD D W) sd) := by
            refine hK (179, 226, o_M_waters2_3) (List.mem_of_getElem? (i := 3) rfl) _ _ _ _ ?_
            refine And.intro (b1) ?_
            refine And.intro (b0) ?_
            refine And.intro (fun c2 => ?_) (fun c2 => ?_)
            · have : lo' = false := by
                rw [m1, m0] at c2
                rw [hlo]
                unfold loB
                rw [decide_eq_true c2]
                rfl
              rw [this] at k3
              exact k3
            refine And.intro (b1) ?_
            refine And.intro (b2) ?_
            refine And.intro (fun c3 => ?_) (fun c3 => ?_)
            · have : lo' = false := by
                rw [m1, m0] at c2
                rw [m1, m2] at c3
                rw [hlo]
                unfold loB
                rw [decide_eq_false c2, decide_eq_true c3]
                rfl
              rw [this] at k3
              exact k3
            · have : lo' = true := by
                rw [m1, m0] at c2
                rw [m1, m2] at c3
                rw [hlo]
                unfold loB
                rw [decide_eq_false c2, decide_eq_false c3]
                rfl
              rw [this] at k3
              exact k3
          refine And.intro (b1) ?_
          refine And.intro (b0) ?_
          refine And.intro (fun c2 => ?_) (fun c2 => ?_)
          · have : hi' = false := by
              rw [m1, m0] at c2
              rw [hhi]
              unfold hiB
              rw [decide_eq_true c2]
              rfl
            rw [this] at k2
            exact k2
          refine And.intro (b1) ?_
          refine And.intro (b2) ?_
          refine And.intro (fun c3 => ?_) (fun c3 => ?_)
          · have : hi' = false := by
              rw [m1, m0] at c2
              rw [m1, m2] at c3
              rw [hhi]
              unfold hiB
              rw [decide_eq_false c2, decide_eq_true c3]
              rfl
            rw [this] at k2
            exact k2
          · have : hi' = true := by
              rw [m1, m0] at c2
              rw [m1, m2] at c3
              rw [hhi]
              unfold hiB
              rw [decide_eq_false c2, decide_eq_false c3]
              rfl
            rw [this] at k2
            exact k2
      have fill : ∀ r i sd, i + r = k' → (∀ j, j < i → sd 102 j = hgM I n (nI s') (nI (f' + 60 * sp * j))) → K 82 [(0, .ref 12), (1, .int (nI s')), (2, .int (nI f')), (3, .int (nI k')), (4, .int (60 * nI sp)), (5, .int (nI i))] [] (ovX I sc) (ovD D sd) := by
        intro r
        induction r with
        | zero =>
          intro i sd hi hm
          refine hK (82, 119, o_M_waters2_1) (List.mem_of_getElem? (i := 1) rfl) _ _ _ _ ?_
          refine And.intro (fun c => ?_) (fun c => ?_)
          · have go := loop (k' - 2) 0 (by omega) _ sd rfl (fun j hj => hm j (by omega))
            rw [show wsM I D n s' f' sp k' 0 = (0, I 98, I 99, D 100) from rfl, fmD_0, fmI_0] at go
            exact go
          · exact absurd (nI_le (by omega) (by omega)) c
        | succ r ih =>
          intro i sd hi hm
          have hc : Con g SHc (d + 3) 189 [.ref 12, .int (nI s'), .int (nI f' + nI i * (60 * nI sp))] (ovX I sc) (ovD D sd) (EqP (some (.double (hgM I n (nI s') (nI (f' + 60 * sp * i))))) (ovX I sc) (ovD D (up2 sd 12 17 (hgM I n (nI s') (nI (f' + 60 * sp * i)))))) := by
            rw [tm_M]
            exact c_M_heightAt g (d + 1) I D n hB.1.1 hB.1.2.1 hB.1.2.2 (nI s') _ sc sd
          refine hK (82, 119, o_M_waters2_1) (List.mem_of_getElem? (i := 1) rfl) _ _ _ _ ?_
          refine And.intro (fun c => ?_) (fun c => ?_)
          · exact absurd c (nI_ge (by omega) (by omega))
          refine call_eq (hc) ?_
          refine And.intro (inn_nI (by omega) (by decide)) ?_
          rw [nI_clamp (show i < 2 ^ 31 by omega), od_up2 _ _ _ _ _ (by rfl)]
          have go := ih (i + 1) (up2 (up2 sd 12 17 (hgM I n (nI s') (nI (f' + 60 * sp * i)))) 102 i (hgM I n (nI s') (nI (f' + 60 * sp * i)))) (by omega) (fun j hj => by
            rw [up2_at2]
            by_cases hji : j = i
            · subst hji
              rw [if_pos ⟨rfl, rfl⟩]
            · rw [if_neg (fun z => hji z.2)]
              exact hm j (by omega))
          rw [nI_succ] at go
          exact go
      have go := fill k' 0 (up2 sd 12 17 (hgtM I n (nI s') (nI f') (I 12 0))) (by omega) (fun j hj => absurd hj (by omega))
      rw [← hst'] at go
      exact go
    · have hfu : decide (3000 ≤ I 12 2) = true := decide_eq_true (show 3000 ≤ I 12 2 from of_decide_eq_true (bI_n0.mp c5))
      rw [hfu]
      exact sc_of
  · have c4 : ¬ nI f' + (nI k' - 1) * (60 * ovX I sc 12 28) ≤ nI 2591999 := c4
    rw [hst', eM, nI_leI q2 (by decide)] at c4
    refine no ?_
    unfold wsOk
    rw [q1]
    unfold wi
    have hle : ¬ nI (f' + 60 * sp * (k' - 1)) ≤ (2591999 : Int32) := show ¬ nI (f' + 60 * sp * (k' - 1)) ≤ nI 2591999 from fun z => c4 ((nI_leI q2 (by decide)).mp z)
    rw [decide_eq_false hle, Bool.and_false, Bool.and_false]
end S53
