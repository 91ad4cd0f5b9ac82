section S70
variable (g : Gp) (d : Nat) (I : MI) (D : MD)
def RM (I : MI) : Prop := ∀ r, r < 6 → ∃ l, l ≤ 4 ∧ I 117 r = nI l ∧ ∀ i, i < l → ∃ q s a, q < 16 ∧ I 118 (4 * r + i) = nI q ∧ s < 12 ∧ I 91 q = nI s ∧ a ≤ 50000 ∧ I 119 (4 * r + i) = nI a ∧ mkB (I 120 (4 * r + i)) = true ∧ (noF (I 120 (4 * r + i)) = true → I 120 (4 * r + i) = 2143289344)
def WM (I : MI) : Prop := (∀ s, s < 12 → ∃ c, c ≤ 40 ∧ I 97 s = nI c) ∧ ∀ j, j < 156 → noF (I 101 j) = false
def lgMf (I : MI) (n m tk fd b : Nat) (bd : Bool) (nd : Int32) (p : Nat) (u : Int32) : Int32 := legA bd (I 12 71) (I 12 72) u (decide (bfM I (I 118 p) u (I 12 0) b = -1 ∨ sfM I (I 91 (I 118 p).toNatClampNeg) u (I 12 0) n = -1)) (wtM I n m tk fd b (I 118 p).toNatClampNeg u) nd (I 120 p) (spl (mwM I (I 91 (I 118 p).toNatClampNeg).toNatClampNeg) (hwM I (I 91 (I 118 p).toNatClampNeg).toNatClampNeg) (I 91 (I 118 p).toNatClampNeg).toNatClampNeg u (I 97 (I 91 (I 118 p).toNatClampNeg).toNatClampNeg).toNatClampNeg) (I 101)
abbrev coM (I : MI) (r : Nat) (mi pc : Int32) (i : Nat) : Int32 := cmF (60 * mi) (I 119 (4 * r + i)) pc
abbrev ltM (I : MI) (n m tk fd b r : Nat) (bd : Bool) (nd mi pc : Int32) (i : Nat) : Int32 := lgMf I n m tk fd b bd nd (4 * r + i) (coM I r mi pc i)
def minM (I : MI) (n m tk fd b r : Nat) (s mi : Int32) : Int32 := miF (askM I 0 5 s) (askM I 2 5 s) (askM I 4 5 s) (tmF (coM I r mi (askM I 2 5 s).2.1) (ltM I n m tk fd b r (decide ((askM I 4 5 s).2.1 = 1)) (askM I 0 5 s).2.1 mi (askM I 2 5 s).2.1) (I 117 r).toNatClampNeg 0)
def bdM (I : MI) (s : Int32) : List Int32 := miB (askM I 0 5 s) (askM I 2 5 s) (askM I 4 5 s)
def lkP (I : MI) (D : MD) (T : Tr) (a : Int32) (bs : List Int32) (r : Nat) (mi pc : Int32) : Po := fun o J E => ∃ sc' sd', o = some (.int a) ∧ J = ovX (trM I (begsT T bs)) sc' ∧ E = ovD D sd' ∧ (a = 1 → (∀ i, i < (I 117 r).toNatClampNeg → sc' 130 i = coM I r mi pc i) ∧ sc' 12 87 = pc ∧ ¬ pc < 1)
theorem lgMf_c (n m tk fd b : Nat) (bd : Bool) (nd : Int32) (p : Nat) (u : Int32) (h : ∃ s, s < 12 ∧ I 91 (I 118 p).toNatClampNeg = nI s) : lgMf I n m tk fd b bd nd p u = 0 ∨ lgMf I n m tk fd b bd nd p u = 1 ∨ lgMf I n m tk fd b bd nd p u = -1 ∨ lgMf I n m tk fd b bd nd p u = -7 ∨ lgMf I n m tk fd b bd nd p u = -2 := by
  obtain ⟨s, hs, he⟩ := h
  unfold lgMf
  rw [he, nI_clamp (show s < 2 ^ 31 by omega)]
  exact legA_c (spl_n hs)
set_option maxHeartbeats 2000000 in
theorem c_M_looks {n m tk fd b h ms : Nat} (hB : KM I n m tk fd b h) (hR : RM I) (hW : WM I) (hms : ms ≤ 40) (rk : Nat → Nat) (hP : rkOk (I 103) (fun j => I 107 (2 * j)) (fun j => I 107 (2 * j + 1)) rk ms) (s : Int32) (hs : ix s (nI ms) = true) (r mi : Nat) (hr : r < 6) (hmi : mi < 43200) (T : Tr) (hT : T.1 ≤ 100) (sc : MI) (sd : MD) : Con g SHc (d + 14) 232 [.ref 12, .int s, .int (nI r), .int (nI mi)] (ovX (trM I T) sc) (ovD D sd) (lkP I D T (minM I n m tk fd b r s (nI mi)) (bdM I s) r (nI mi) (askM I 2 5 s).2.1) := by
  refine Con.mk (LV := v_M_looks) k_M_looks (Nat.le_of_ble_eq_true rfl) (fun K hK => ?_)
  obtain ⟨l, hl, hle, hlg⟩ := hR r hr
  have hlc : (I 117 r).toNatClampNeg = l := by rw [hle]; exact nI_clamp (by omega)
  have hrc : (nI r).toNatClampNeg = r := nI_clamp (by omega)
  have hr6 : inn (nI r) 6 := inn_nI hr (by decide)
  obtain ⟨j0, hj0, hje0⟩ := ix_nI (show ms < 2 ^ 31 by omega) hs
  have hok : okp rk ms s 5 := Or.inr ⟨j0, hj0, hje0, by have := (hP j0 hj0).1; omega⟩
  have f0 : ∀ w, (askM I w 5 s).1 = 0 ∨ (askM I w 5 s).1 = 1 ∨ (askM I w 5 s).1 = 4 := fun w => askF_c _ _ _ _ _ _ w 5 s
  have hA : ∀ w, ∀ T' sc', T'.1 ≤ 100 → Con g SHc (d + 13) 203 [.ref 12, .int s, .int w] (ovX (trM I T') sc') (ovD D sd) (amP I (ovD D sd) T' sc' (askM I w 5 s)) := fun w T' sc' hT' => c_M_asks g (d + 9) I (ovD D sd) ms hms rk hP w s hok T' hT' sc'
  have aN := hA 0
  have aP := hA 2
  have aD := hA 4
  have fN := f0 0
  have fP := f0 2
  have fD := f0 4
  unfold minM bdM at hK
  rw [hlc] at hK
  generalize askM I 0 5 s = rN at hK aN fN
  generalize askM I 2 5 s = rP at hK aP fP
  generalize askM I 4 5 s = rD at hK aD fD
  obtain ⟨Tm, hTm⟩ : ∃ Tm, Tm = tmF (coM I r (nI mi) rP.2.1) (ltM I n m tk fd b r (decide (rD.2.1 = 1)) rN.2.1 (nI mi) rP.2.1) l 0 := ⟨_, rfl⟩
  rw [← hTm] at hK
  have loop : rN.1 = 0 → rP.1 = 0 → rD.1 = 0 → ¬ rP.2.1 < 1 → ∀ k i sc sd, i + k = l → tmF (coM I r (nI mi) rP.2.1) (ltM I n m tk fd b r (decide (rD.2.1 = 1)) rN.2.1 (nI mi) rP.2.1) k i = Tm → sc 12 87 = rP.2.1 → (∀ q, q < i → sc 130 q = coM I r (nI mi) rP.2.1 q) → K 100 [(0, .ref 12), (2, .int (nI r)), (3, .int (nI mi)), (5, .int rN.2.1), (6, .int (bI (decide (rD.2.1 = 1)))), (7, .int (nI i))] [] (ovX (trM I (begsT T (miB rN rP rD))) sc) (ovD D sd) := by
    intro hN0 hP0 hD0 hp1 k
    have hm1 : miF rN rP rD Tm = Tm := by
      unfold miF
      rw [if_neg (fun z => z hN0), if_neg (fun z => z hP0), if_neg (fun z => z hD0), if_neg hp1]
    rw [hm1] at hK
    obtain ⟨pc, hpc31, hpce⟩ := nI_of (x := rP.2.1) (fun z => hp1 (by rw [i32_lt] at z ⊢; rw [show ((0 : Int32)).toInt = 0 by decide] at z; rw [show ((1 : Int32)).toInt = 1 by decide]; omega))
    have hpc1 : 1 ≤ pc := by
      rcases Nat.eq_zero_or_pos pc with z | z
      · rw [hpce, z] at hp1
        exact absurd (by decide) hp1
      · exact z
    induction k with
    | zero =>
      intro i sc sd hi htm hp hc
      have htm : (1 : Int32) = Tm := htm
      refine hK (100, 201, o_M_looks_1) (List.mem_of_getElem? (i := 1) rfl) _ _ _ _ ?_
      refine And.intro (hr6) ?_
      refine And.intro (fun c => ?_) (fun c => ?_)
      · rw [← htm]
        exact ⟨sc, sd, rfl, rfl, rfl, fun _ => ⟨fun q hq => hc q (by rw [hlc] at hq; omega), hp, hp1⟩⟩
      · have hle' : ovX (trM I (begsT T (miB rN rP rD))) sc 117 (nI r).toNatClampNeg = nI l := by rw [hrc]; exact hle
        rw [hle'] at c
        exact absurd (nI_le (by omega) (by omega)) c
    | succ k ih =>
      intro i sc sd hi htm hp hc
      have hic : (nI i).toNatClampNeg = i := nI_clamp (by omega)
      obtain ⟨q, s', a, hq, hqe, hs', hse, ha, hae, hmk, hmn⟩ := hlg i (by omega)
      obtain ⟨c', hc', hce⟩ := hW.1 s' hs'
      obtain ⟨k1, k2, k3⟩ := cm_c hpce hpc1 hpc31 hmi ha
      have e4 : 4 * nI r + nI i = nI (4 * r + i) := nI_lin' 4 r i
      have hp24 : inn (4 * nI r + nI i) 24 := by rw [e4]; exact inn_nI (by omega) (by decide)
      have hC : Con g SHc (d + 13) 229 [.int (60 * nI mi), .int (ovX (trM I (begsT T (miB rN rP rD))) sc 119 (4 * nI r + nI i).toNatClampNeg), .int (ovX (trM I (begsT T (miB rN rP rD))) sc 12 87)] (ovX (trM I (begsT T (miB rN rP rD))) sc) (ovD D sd) (EqP (some (.int (nI (60 * mi + a * 100 / pc)))) (ovX (trM I (begsT T (miB rN rP rD))) sc) (ovD D sd)) := by
        rw [e4, nI_clamp (show 4 * r + i < 2 ^ 31 by omega), show ovX (trM I (begsT T (miB rN rP rD))) sc 12 87 = rP.2.1 from hp, show ovX (trM I (begsT T (miB rN rP rD))) sc 119 (4 * r + i) = nI a from hae, ← k1]
        exact c_M_comesAt g (d + 13) _ _ _ _ _ (fun z => hp1 (by rw [z]; decide))
      have nxt : tmF (coM I r (nI mi) rP.2.1) (ltM I n m tk fd b r (decide (rD.2.1 = 1)) rN.2.1 (nI mi) rP.2.1) (k + 1) i = if coM I r (nI mi) rP.2.1 i = -3 then -3 else if ltM I n m tk fd b r (decide (rD.2.1 = 1)) rN.2.1 (nI mi) rP.2.1 i = 1 then tmF (coM I r (nI mi) rP.2.1) (ltM I n m tk fd b r (decide (rD.2.1 = 1)) rN.2.1 (nI mi) rP.2.1) k (i + 1) else anX (ltM I n m tk fd b r (decide (rD.2.1 = 1)) rN.2.1 (nI mi) rP.2.1 i) := rfl
      rw [nxt] at htm
      have hco : coM I r (nI mi) rP.2.1 i = cmF (60 * nI mi) (nI a) rP.2.1 := by
        show cmF (60 * nI mi) (I 119 (4 * r + i)) rP.2.1 = _
        rw [hae]
      have hLd : ∀ tt, coM I r (nI mi) rP.2.1 i = nI tt → ltM I n m tk fd b r (decide (rD.2.1 = 1)) rN.2.1 (nI mi) rP.2.1 i = legA (decide (rD.2.1 = 1)) (I 12 71) (I 12 72) (nI tt) (decide (bfM I (nI q) (nI tt) (I 12 0) b = -1 ∨ sfM I (nI s') (nI tt) (I 12 0) n = -1)) (wtM I n m tk fd b q (nI tt)) rN.2.1 (I 120 (4 * r + i)) (spl (mwM I s') (hwM I s') s' (nI tt) c') (I 101) := by
        intro tt htt
        show lgMf I n m tk fd b (decide (rD.2.1 = 1)) rN.2.1 (4 * r + i) (coM I r (nI mi) rP.2.1 i) = _
        rw [htt]
        unfold lgMf
        rw [hqe, nI_clamp (show q < 2 ^ 31 by omega), hse, nI_clamp (show s' < 2 ^ 31 by omega), hce, nI_clamp (show c' < 2 ^ 31 by omega)]
      have hLc : ltM I n m tk fd b r (decide (rD.2.1 = 1)) rN.2.1 (nI mi) rP.2.1 i = 0 ∨ _ := lgMf_c I n m tk fd b (decide (rD.2.1 = 1)) rN.2.1 (4 * r + i) (coM I r (nI mi) rP.2.1 i) ⟨s', hs', by rw [hqe, nI_clamp (show q < 2 ^ 31 by omega)]; exact hse⟩
      obtain ⟨U, hU⟩ : ∃ U, U = coM I r (nI mi) rP.2.1 i := ⟨_, rfl⟩
      rw [← hU] at htm hLd hco
      obtain ⟨L, hLe⟩ : ∃ L, L = ltM I n m tk fd b r (decide (rD.2.1 = 1)) rN.2.1 (nI mi) rP.2.1 i := ⟨_, rfl⟩
      rw [← hLe] at htm hLd
      have hLc : L = 0 ∨ L = 1 ∨ L = -1 ∨ L = -7 ∨ L = -2 := by rw [hLe]; exact hLc
      clear hLe nxt
      obtain ⟨tt, htt⟩ : ∃ tt, tt = 60 * mi + a * 100 / pc := ⟨_, rfl⟩
      rw [← htt] at hC k2 k3
      refine hK (100, 201, o_M_looks_1) (List.mem_of_getElem? (i := 1) rfl) _ _ _ _ ?_
      refine And.intro (hr6) ?_
      refine And.intro (fun c => ?_) (fun c => ?_)
      · have hle' : ovX (trM I (begsT T (miB rN rP rD))) sc 117 (nI r).toNatClampNeg = nI l := by rw [hrc]; exact hle
        rw [hle'] at c
        exact absurd c (nI_ge (by omega) (by omega))
      refine And.intro (hp24) ?_
      refine call_eq (hC) ?_
      refine And.intro (fun c1 => ?_) (fun c1 => ?_)
      · have c1 : nI tt ≤ nI 2591999 := c1
        rw [nI_leI k2 (by decide)] at c1
        have hUe : U = nI tt := by
          rcases k3 with ⟨z1, z2⟩ | ⟨z1, z2⟩
          · omega
          · rw [hco, z1]
        have hU3 : ¬ U = -3 := by
          intro z
          rw [hUe] at z
          have := congrArg Int32.toInt z
          rw [nI_toInt k2, show ((-3 : Int32)).toInt = -3 by decide] at this
          omega
        rw [if_neg hU3] at htm
        refine And.intro (inn_nI (by omega) (by decide)) ?_
        rw [hic, ov_up2 _ _ _ _ _ (by rfl)]
        have hLeg : Con g SHc (d + 13) 233 [.ref 12, .int (4 * nI r + nI i), .int (nI tt), .int rN.2.1, .int (bI (decide (rD.2.1 = 1)))] (ovX (trM I (begsT T (miB rN rP rD))) (up2 sc 130 i (nI tt))) (ovD D sd) (psP (trM I (begsT T (miB rN rP rD))) D (up2 sc 130 i (nI tt)) L) := by
          rw [e4, hLd tt hUe]
          exact c_M_passes g (d + 9) (trM I (begsT T (miB rN rP rD))) D hB (4 * r + i) q s' c' tt (by omega) hqe hq hse hs' hc' hce hW.2 hmk hmn rN.2.1 (decide (rD.2.1 = 1)) (up2 sc 130 i (nI tt)) sd
        refine call_of hLeg ?_
        rintro o J E ⟨sc2, sd2, hk2, rfl, rfl, rfl⟩
        refine And.intro (fun c2 => ?_) (fun c2 => ?_)
        · have hL1 : L = 1 := by
            rcases hLc with z | z | z | z | z
            · rw [z] at c2; exact absurd c2 (by decide)
            · exact z
            · rw [z] at c2; exact absurd c2 (by decide)
            · rw [z] at c2; exact absurd c2 (by decide)
            · rw [z] at c2; exact absurd c2 (by decide)
          rw [if_pos hL1] at htm
          have go := ih (i + 1) sc2 sd2 (by omega) htm (hk2.2.2.2.2.1.trans hp) (fun q' hq' => by
            rw [hk2.2.2.2.2.2, up2_at2]
            by_cases hqi : q' = i
            · subst hqi
              rw [if_pos ⟨rfl, rfl⟩, ← hUe]
              exact hU
            · rw [if_neg (fun z => hqi z.2)]
              exact hc q' (by omega))
          rw [nI_succ] at go
          exact go
        · have hL1 : ¬ L = 1 := fun z => c2 (by rw [z]; decide)
          rw [if_neg hL1] at htm
          rw [← htm]
          have fin : ∀ y, y = anX L → lkP I D T (anX L) (miB rN rP rD) r (nI mi) rP.2.1 (some (.int y)) (ovX (trM I (begsT T (miB rN rP rD))) sc2) (ovD D sd2) := by
            intro y hy
            refine ⟨sc2, sd2, by rw [hy], rfl, rfl, fun z => ?_⟩
            exfalso
            rcases hLc with w | w | w | w | w
            · rw [w] at z; exact absurd z (by decide)
            · exact hL1 w
            · rw [w] at z; exact absurd z (by decide)
            · rw [w] at z; exact absurd z (by decide)
            · rw [w] at z; exact absurd z (by decide)
          refine And.intro (fun c3 => ?_) (fun c3 => ?_)
          · refine fin _ ?_
            rcases hLc with w | w | w | w | w
            · exact absurd w c3
            · exact absurd w hL1
            · rw [w]; rfl
            · rw [w]; rfl
            · rw [w]; rfl
          · refine fin _ ?_
            rw [c3]; rfl
      · have c1 : ¬ nI tt ≤ nI 2591999 := c1
        rw [nI_leI k2 (by decide)] at c1
        have hUe : U = -3 := by
          rcases k3 with ⟨z1, z2⟩ | ⟨z1, z2⟩
          · rw [hco, z1]
          · omega
        rw [if_pos hUe] at htm
        rw [← htm]
        exact ⟨sc, sd, rfl, rfl, rfl, fun z => absurd z (by decide)⟩
  refine hK (0, 100, o_M_looks_0) (List.mem_of_getElem? (i := 0) rfl) _ _ _ _ ?_
  have hT1 : (begsT T rN.2.2).1 ≤ 100 := begsT_le _ hT
  have hT2 : (begsT (begsT T rN.2.2) rP.2.2).1 ≤ 100 := begsT_le _ hT1
  have bad : ∀ f : Int32, (f = 0 ∨ f = 1 ∨ f = 4) → ¬ f = 0 → ¬ -10 - f = 1 := by
    intro f hf h0
    rcases hf with w | w | w
    · exact absurd w h0
    · rw [w]; decide
    · rw [w]; decide
  refine call_of (aN T sc hT) ?_
  rintro o J E ⟨rfl, rfl, sc1, rfl, hvN, -⟩
  refine And.intro (fun c1 => ?_) (fun c1 => ?_)
  · have evN : ovX (trM I (begsT T rN.2.2)) sc1 12 62 = rN.2.1 := hvN c1
    refine call_of (aP (begsT T rN.2.2) sc1 hT1) ?_
    rintro o J E ⟨rfl, rfl, sc2, rfl, hvP, -⟩
    refine And.intro (fun c2 => ?_) (fun c2 => ?_)
    · have evP : ovX (trM I (begsT (begsT T rN.2.2) rP.2.2)) sc2 12 62 = rP.2.1 := hvP c2
      rw [evP, ov_up2 _ _ _ _ _ (by rfl)]
      refine call_of (aD (begsT (begsT T rN.2.2) rP.2.2) _ hT2) ?_
      rintro o J E ⟨rfl, rfl, sc3, rfl, hvD, hpn⟩
      have e2 : miB rN rP rD = rN.2.2 ++ (rP.2.2 ++ rD.2.2) := by
        unfold miB
        rw [if_pos c1, if_pos c2]
      have eT : begsT (begsT (begsT T rN.2.2) rP.2.2) rD.2.2 = begsT T (miB rN rP rD) := by rw [e2, begsT_app, begsT_app]
      rw [eT]
      have hpn : sc3 12 87 = rP.2.1 := by rw [hpn, up2_at]
      have go3 : rD.1 = 0 → ∀ y, y = bI (decide (rD.2.1 = 1)) → (1 ≤ rP.2.1 → K 100 [(0, .ref 12), (2, .int (nI r)), (3, .int (nI mi)), (5, .int (ovX (trM I (begsT T rN.2.2)) sc1 12 62)), (6, .int y), (7, .int 0)] [] (ovX (trM I (begsT T (miB rN rP rD))) sc3) (ovD D sd)) := by
        intro h0 y hy hp1
        rw [evN, hy]
        exact loop c1 c2 h0 (i32_nlt.mpr hp1) l 0 sc3 sd (by omega) hTm.symm hpn (fun q hq => absurd hq (by omega))
      have no3 : rD.1 = 0 → ¬ 1 ≤ rP.2.1 → lkP I D T (miF rN rP rD Tm) (miB rN rP rD) r (nI mi) rP.2.1 (some (.int (-3))) (ovX (trM I (begsT T (miB rN rP rD))) sc3) (ovD D sd) := by
        intro h0 hp1
        have e1 : miF rN rP rD Tm = -3 := by
          unfold miF
          rw [if_neg (fun z => z c1), if_neg (fun z => z c2), if_neg (fun z => z h0), if_pos (i32_nle.mp hp1)]
        rw [e1]
        exact ⟨sc3, sd, rfl, rfl, rfl, fun z => absurd z (by decide)⟩
      have bad3 : ¬ rD.1 = 0 → lkP I D T (miF rN rP rD Tm) (miB rN rP rD) r (nI mi) rP.2.1 (some (.int (-10 - rD.1))) (ovX (trM I (begsT T (miB rN rP rD))) sc3) (ovD D sd) := by
        intro h0
        have e1 : miF rN rP rD Tm = -10 - rD.1 := by
          unfold miF
          rw [if_neg (fun z => z c1), if_neg (fun z => z c2), if_pos h0]
        rw [e1]
        exact ⟨sc3, sd, rfl, rfl, rfl, fun z => absurd z (bad _ fD h0)⟩
      refine And.intro (fun c5 => ?_) (fun c5 => ?_)
      · have c5 : ¬ sc3 12 62 = 1 := c5
        refine And.intro (fun c3 => ?_) (fun c3 => ?_)
        · refine And.intro (fun c4 => ?_) (fun c4 => ?_)
          · have c4 : 1 ≤ sc3 12 87 := c4
            rw [hpn] at c4
            refine go3 c3 0 ?_ c4
            rw [hvD c3] at c5
            rw [decide_eq_false c5]
            rfl
          · have c4 : ¬ 1 ≤ sc3 12 87 := c4
            rw [hpn] at c4
            exact no3 c3 c4
        · exact bad3 c3
      · have c5 : sc3 12 62 = 1 := c5
        refine And.intro (fun c3 => ?_) (fun c3 => ?_)
        · refine And.intro (fun c4 => ?_) (fun c4 => ?_)
          · have c4 : 1 ≤ sc3 12 87 := c4
            rw [hpn] at c4
            refine go3 c3 1 ?_ c4
            rw [hvD c3] at c5
            rw [decide_eq_true c5]
            rfl
          · have c4 : ¬ 1 ≤ sc3 12 87 := c4
            rw [hpn] at c4
            exact no3 c3 c4
        · exact bad3 c3
    · have e1 : miF rN rP rD Tm = -10 - rP.1 := by
        unfold miF
        rw [if_neg (fun z => z c1), if_pos c2]
      have e2 : miB rN rP rD = rN.2.2 ++ rP.2.2 := by
        unfold miB
        rw [if_pos c1, if_neg c2, List.append_nil]
      rw [e1, e2]
      refine ⟨up2 sc2 12 87 (sc2 12 62), sd, rfl, ?_, rfl, fun z => absurd z (bad _ fP c2)⟩
      rw [begsT_app]
      exact ov_up2 _ _ _ _ _ (by rfl)
  · have e1 : miF rN rP rD Tm = -10 - rN.1 := by
      unfold miF
      rw [if_pos c1]
    have e2 : miB rN rP rD = rN.2.2 := by
      unfold miB
      rw [if_neg c1, List.append_nil]
    rw [e1, e2]
    exact ⟨sc1, sd, rfl, rfl, rfl, fun z => absurd z (bad _ fN c1)⟩
end S70
