section S49m
variable (g : Gp) (d : Nat) (I : MI) (D : MD)
theorem srM_ok {I : MI} {n m tk fd b h : Nat} (hB : KM I n m tk fd b h) {j z : Nat} (hj : j < m) (hz : I 87 j = nI z) (hz2 : z ≤ 120) {t : Int32} {G0 : Nat → UInt64} {la0 : Int32} {S : Srg} (hS : S = sgF (moM I j) (shM' I j) (noM I n j) (hhM I n j) G0 la0 (enM I j z t - tk) (enM I j z t - (enM I j z t - tk))) :
    S.n = (srM I n tk j t).n ∧ S.k = (srM I n tk j t).k ∧ (0 < S.n → sgV (nI fd) t S.la S.G S.n = sv fd t (srM I n tk j t) ∧ fb 301 (S.G ((S.n - 1) / 2)) ∧ fb 341 (sv fd t (srM I n tk j t))) := by
  obtain ⟨⟨k1, k2, k3⟩, ⟨k4, k5, k6⟩, ⟨k7, k8, k9, k10, k11⟩, -⟩ := hB
  have hc := sr_c hS fd
  have e0 : srM I n tk j t = srC (moM I j) (shM' I j) (noM I n j) (hhM I n j) z tk t := by
    unfold srM
    rw [hz, nI_clamp (show z < 2 ^ 31 by omega)]
  rw [e0]
  refine ⟨hc.1, hc.2.1, fun h0 => ?_⟩
  have hv := hc.2.2 h0
  rw [← hv]
  have hall := sgF_all (P := fb 301) (moM I j) (shM' I j) (noM I n j) (hhM I n j) G0 la0 (enM I j z t - tk) (fun i hi => ofM_fb I k1 k3 _ _ _ _ (of_decide_eq_false hi)) (enM I j z t - (enM I j z t - tk))
  rw [← hS] at hall
  have h3 := hall ((S.n - 1) / 2) (by omega)
  refine ⟨rfl, h3, ?_⟩
  unfold sgV
  split
  · exact fb_c (by decide +kernel)
  · exact fb_mono (by omega) (fb_mul (E := 301) (F := 31) (by omega) h3 (fq_fb k9 k10 _))
theorem c_M_surges' {n m tk fd b h : Nat} (hB : KM I n m tk fd b h) (j : Nat) (hj : j < m) (t : Int32) (sc : MI) (sd : MD) : Con g SHc (d + 2) 178 [.ref 12, .int (nI j), .int t] (ovX I sc) (ovD D sd) (fun o J E => o = some (.int (if (srM I n tk j t).n = 0 then 7 else 0)) ∧ J = ovX I (up2 sc 12 32 (nI (srM I n tk j t).k)) ∧ ∃ sd', E = ovD D sd' ∧ (¬ (srM I n tk j t).n = 0 → sd' 12 31 = sv fd t (srM I n tk j t) ∧ fb 341 (sv fd t (srM I n tk j t)))) := by
  obtain ⟨z, f, p, q1, q2, q3, q4, q5, q6⟩ := hB.2.1.2.2 j hj
  have hj10 : j < 10 := Nat.lt_of_lt_of_le hj hB.2.1.1
  obtain ⟨h1, h2, h3⟩ := srM_ok (t := t) (G0 := ovD D sd 90) (la0 := 0) hB hj q4 q1 (S := sgM (ovX I sc) (ovD D sd) n j z tk t) rfl
  refine con_mono (c_M_surges g d (ovX I sc) (ovD D sd) n j z tk fd hB.1.1 hB.1.2.1 hB.1.2.2 hj10 q1 q4 hB.2.2.1.1 hB.2.2.1.2.1 hB.2.2.1.2.2.1 hB.2.2.1.2.2.2.1 hB.2.2.1.2.2.2.2 t (fun h0 => (h3 h0).2.1)) ?_
  rintro o J E ⟨ho, hJ, lv, hE⟩
  have e1 : ∀ G, gmD (ovD D sd) lv G = ovD D (up2 (upc sd 90 G) 12 17 lv) := by
    intro G
    unfold gmD
    rw [od_upc _ _ _ _ (fun _ => rfl), od_up2 _ _ _ _ _ rfl]
  refine ⟨by rw [ho, h1], ?_, ?_⟩
  · rw [hJ]
    unfold gmI
    rw [ov_up2 _ _ _ _ _ rfl, h2]
  · by_cases c : (sgM (ovX I sc) (ovD D sd) n j z tk t).n = 0
    · rw [if_pos c, e1] at hE
      exact ⟨_, hE, fun hne => absurd (h1 ▸ c) hne⟩
    · rw [if_neg c, e1, od_up2 _ _ _ _ _ rfl] at hE
      refine ⟨_, hE, fun _ => ?_⟩
      obtain ⟨q7, q8, q9⟩ := h3 (by omega)
      refine ⟨?_, q9⟩
      rw [up2_at]
      exact q7
theorem c_M_surge' {n m tk fd b h : Nat} (hB : KM I n m tk fd b h) (ga t : Int32) (sc : MI) (sd : MD) : Con g SHc (d + 3) 177 [.ref 12, .int ga, .int t] (ovX I sc) (ovD D sd)
    (Sc (some (.long (suA (ix ga (nI m) && wi t 0 2591999 && !decide (3000 ≤ I 12 2)) (!decide (I 86 ga.toNatClampNeg = 0)) (srM I n tk ga.toNatClampNeg t) (sv fd t (srM I n tk ga.toNatClampNeg t))))) (suIM (ix ga (nI m) && wi t 0 2591999 && !decide (3000 ≤ I 12 2)) (!decide (I 86 ga.toNatClampNeg = 0)) (srM I n tk ga.toNatClampNeg t) I) D) := by
  refine Con.mk (LV := v_M_surge) k_M_surge (Nat.le_of_ble_eq_true rfl) (fun K hK => ?_)
  refine hK (0, 82, o_M_surge_0) (List.mem_of_getElem? (i := 0) rfl) _ _ _ _ ?_
  refine call_eq (c_M_isGauge g (d + 1) (ovX I sc) (ovD D sd) ga) ?_
  have hm := hB.2.1.1
  have hix : wi ga 0 (ovX I sc 12 18 - 1) = ix ga (nI m) := by rw [show ovX I sc 12 18 = nI m from hB.2.1.2.1]; exact ix_wi (by omega)
  rw [hix]
  refine And.intro (fun c1 => ?_) (fun c1 => ?_)
  · rw [bI_0.mp c1]
    exact sc_of
  have h1 := bI_n0.mp c1
  rw [h1]
  obtain ⟨j, hj, rfl⟩ := ix_nI (by omega) h1
  have hc : (nI j).toNatClampNeg = j := nI_clamp (by omega)
  refine call_eq (c_M_isMoment g (d + 1) (ovX I sc) (ovD D sd) t) ?_
  refine And.intro (fun c2 => ?_) (fun c2 => ?_)
  · rw [bI_0.mp c2]
    exact sc_of
  have h2 := bI_n0.mp c2
  rw [h2]
  refine call_eq (c_M_isFull g (d + 2) (ovX I sc) (ovD D sd)) ?_
  refine And.intro (fun c3 => ?_) (fun c3 => ?_)
  · have h3 : ¬ 3000 ≤ I 12 2 := of_decide_eq_false (bI_0.mp c3)
    rw [decide_eq_false h3]
    refine And.intro (inn_nI (by omega) (by decide)) ?_
    refine And.intro (fun c4 => ?_) (fun c4 => ?_)
    · have c4 : I 86 (nI j).toNatClampNeg = 0 := c4
      rw [decide_eq_true c4, hc]
      refine call_of (c_M_surges' g d I D hB j hj t sc sd) ?_
      rintro o J E ⟨rfl, rfl, sd', rfl, hs⟩
      have e8 : ovX I (up2 sc 12 32 (nI (srM I n tk j t).k)) 12 32 = nI (srM I n tk j t).k := rfl
      by_cases c5 : (srM I n tk j t).n = 0
      · rw [if_pos c5]
        refine And.intro (fun z => absurd z (by decide)) (fun _ => ?_)
        rw [e8, ov_n2 _ _ _ _ _ rfl]
        refine call_eq (c_M_fails g (d + 2) _ _ 7) ?_
        refine sc_by (sc := up2 sc 12 32 (nI (srM I n tk j t).k)) ?_ ?_ rfl
        · show _ = some (Value.long (if (srM I n tk j t).n = 0 then _ else _))
          rw [if_pos c5]
        · show _ = ovX (if (srM I n tk j t).n = 0 then _ else _) _
          rw [if_pos c5, tellM_ov]
      · rw [if_neg c5]
        refine And.intro (fun _ => ?_) (fun z => absurd rfl z)
        obtain ⟨h6, h7⟩ := hs c5
        have e7 : ovD D sd' 12 31 = sv fd t (srM I n tk j t) := h6
        rw [e8, ov_n2 _ _ _ _ _ rfl]
        refine call_eq (c_M_dtl g (d + 1) _ _ (ovD D sd' 12 31) (by rw [e7]; exact fb_fin h7)) ?_
        rw [e7]
        refine sc_by (sc := up2 sc 12 32 (nI (srM I n tk j t).k)) ?_ ?_ rfl
        · show _ = some (Value.long (if (srM I n tk j t).n = 0 then _ else _))
          rw [if_neg c5]
        · show _ = ovX (if (srM I n tk j t).n = 0 then _ else _) _
          rw [if_neg c5]
    · have c4 : ¬ I 86 (nI j).toNatClampNeg = 0 := c4
      rw [decide_eq_false c4]
      refine call_eq (c_M_fails g (d + 2) (ovX I sc) (ovD D sd) 1) ?_
      rw [tellM_ov]
      exact sc_of
  · have h3 : 3000 ≤ I 12 2 := of_decide_eq_true (bI_n0.mp c3)
    rw [decide_eq_true h3]
    exact sc_of
theorem wtM_fb {n m tk fd b h : Nat} (hB : KM I n m tk fd b h) (q : Nat) (t : Int32) (hsf : ¬ sfM I (I 91 q) t (I 12 0) n = -1) : fb 342 (wtM I n m tk fd b q t) := by
  have hd := dpM_fb I n b q hB.1.1 hB.1.2.2 t (I 12 0) hsf
  unfold wtM wtG
  split
  · exact fb_mono (by omega) hd
  next c1 =>
    split
    · split
      · exact fb_mono (by omega) hd
      next c3 =>
        rcases foF_in (I 83) (I 91 q) m 0 with h | ⟨j, h1, h2, h3⟩
        · exact absurd h c1
        · have hm := hB.2.1.1
          rw [show fgM I m q = nI j from h3, nI_clamp (by omega)] at c3 ⊢
          obtain ⟨z, f, p, q1, q2, q3, q4, q5, q6⟩ := hB.2.1.2.2 j (by omega)
          obtain ⟨s1, s2, s3⟩ := srM_ok (t := t) (G0 := fun _ => 0) (la0 := 0) hB (show j < m by omega) q4 q1 (S := sgF (moM I j) (shM' I j) (noM I n j) (hhM I n j) (fun _ => 0) 0 (enM I j z t - tk) (enM I j z t - (enM I j z t - tk))) rfl
          exact fb_add (E := 341) (by omega) (fb_mono (by omega) hd) (s3 (by rw [s1]; omega)).2.2
    · exact fb_mono (by omega) hd
/-- what flows() leaves -/
def flP (I : MI) (D : MD) (sc0 : MI) (no : Prop) (v : UInt64) : Po := fun o J E => ∃ sc sd, J = ovX I sc ∧ E = ovD D sd ∧ kV sc0 sc ∧ (no ∧ o = some (.int 0) ∨ ¬ no ∧ o = some (.int 1) ∧ sd 12 17 = v)
set_option maxHeartbeats 1000000 in
theorem c_M_flows {n m tk fd b h : Nat} (hB : KM I n m tk fd b h) (q : Nat) (hq : q < 16) (t : Int32) (sc : MI) (sd : MD) : Con g SHc (d + 3) 187 [.ref 12, .int (nI q), .int t] (ovX I sc) (ovD D sd) (flP I D sc (bfM I (nI q) t (I 12 0) b = -1 ∨ sfM I (I 91 q) t (I 12 0) n = -1) (wtM I n m tk fd b q t)) := by
  refine Con.mk (LV := v_M_flows) k_M_flows (Nat.le_of_ble_eq_true rfl) (fun K hK => ?_)
  have hm := hB.2.1.1
  have hqc : (nI q).toNatClampNeg = q := nI_clamp (by omega)
  refine hK (0, 23, o_M_flows_0) (List.mem_of_getElem? (i := 0) rfl) _ _ _ _ ?_
  have hgo : Con g SHc (d + 2) 185 [.ref 12, .int (nI q), .int t, .int (I 12 0)] (ovX I sc) (ovD D sd) (EqP (some (.int (bI (!decide (bfM I (nI q) t (I 12 0) b = -1) && !decide (sfM I (I 91 q) t (I 12 0) n = -1))))) (ovX I sc) (if bfM I (nI q) t (I 12 0) b = -1 then ovD D sd else if sfM I (I 91 q) t (I 12 0) n = -1 then ovD D sd else up2 (ovD D sd) 12 17 (dpM I n b q t (I 12 0)))) := c_M_goesDown g d (ovX I sc) (ovD D sd) n b q hB.1.1 hB.1.2.1 hB.1.2.2 hB.2.2.2.1 hB.2.2.2.2.1 hq t (I 12 0)
  refine call_eq (hgo) ?_
  by_cases c1 : bfM I (nI q) t (I 12 0) b = -1
  · rw [decide_eq_true c1, if_pos c1]
    refine And.intro (fun z => absurd rfl z) (fun _ => ?_)
    exact And.intro (by decide) ⟨sc, sd, rfl, rfl, kV_rf sc, Or.inl ⟨Or.inl c1, rfl⟩⟩
  rw [decide_eq_false c1, if_neg c1]
  by_cases c2 : sfM I (I 91 q) t (I 12 0) n = -1
  · rw [decide_eq_true c2, if_pos c2]
    refine And.intro (fun z => absurd rfl z) (fun _ => ?_)
    exact And.intro (by decide) ⟨sc, sd, rfl, rfl, kV_rf sc, Or.inl ⟨Or.inr c2, rfl⟩⟩
  rw [decide_eq_false c2, if_neg c2, od_up2 _ _ _ _ _ rfl]
  refine And.intro (fun _ => ?_) (fun z => absurd z (by decide))
  have hno : ¬ (bfM I (nI q) t (I 12 0) b = -1 ∨ sfM I (I 91 q) t (I 12 0) n = -1) := fun z => z.elim c1 c2
  generalize hsd : up2 sd 12 17 (dpM I n b q t (I 12 0)) = sd1
  have e1 : ovD D sd1 12 17 = dpM I n b q t (I 12 0) := by rw [← hsd]; rfl
  have hd := dpM_fb I n b q hB.1.1 hB.1.2.2 t (I 12 0) c2
  have fin : ∀ sc2 sd2 v, kV sc sc2 → v = wtM I n m tk fd b q t → flP I D sc (bfM I (nI q) t (I 12 0) b = -1 ∨ sfM I (I 91 q) t (I 12 0) n = -1) (wtM I n m tk fd b q t) (some (.int 1)) (ovX I sc2) (up2 (ovD D sd2) 12 17 v) := by
    intro sc2 sd2 v hkv hv
    refine ⟨sc2, up2 sd2 12 17 v, rfl, od_up2 _ _ _ _ _ rfl, hkv, Or.inr ⟨hno, rfl, ?_⟩⟩
    rw [up2_at, hv]
  have hgm : ovX I sc 12 18 = nI m := hB.2.1.2.1
  have loop : ∀ r i, i + r = m → foF (I 83) (I 91 q) r i = fgM I m q → K 23 [(0, .ref 12), (1, .int (nI q)), (2, .int t), (3, .double (dpM I n b q t (I 12 0))), (5, .int (nI i))] [] (ovX I sc) (ovD D sd1) := by
    intro r
    induction r with
    | zero =>
      intro i hi hf
      have h9 : fgM I m q = -1 := hf.symm
      refine hK (23, 97, o_M_flows_1) (List.mem_of_getElem? (i := 1) rfl) _ _ _ _ ?_
      refine And.intro (fun c => ?_) (fun c => ?_)
      · refine And.intro (fun c3 => ?_) (fun c3 => ?_)
        · refine And.intro (Or.inr rfl) (fin _ _ _ (kV_rf sc) ?_)
          unfold wtM wtG
          rw [if_pos h9]
        · exact absurd (by rw [hgm]; exact nI_le (by omega) (by omega)) c3
      · exact absurd (by rw [hgm]; exact nI_le (by omega) (by omega)) c
    | succ r ih =>
      intro i hi hf
      have hic : (nI i).toNatClampNeg = i := nI_clamp (by omega)
      refine hK (23, 97, o_M_flows_1) (List.mem_of_getElem? (i := 1) rfl) _ _ _ _ ?_
      refine And.intro (fun c => ?_) (fun c => ?_)
      · rw [hgm] at c
        exact absurd c (nI_ge (by omega) (by omega))
      refine And.intro (inn_nI (by omega) (by decide)) ?_
      refine And.intro (inn_nI hq (by decide)) ?_
      rw [hic, hqc]
      refine And.intro (fun c3 => ?_) (fun c3 => ?_)
      · have c3 : I 83 i = I 91 q := c3
        have h9 : fgM I m q = nI i := by rw [← hf, foF, if_pos c3]
        have e0 : wtM I n m tk fd b q t = (if I 86 i = 0 then (if (srM I n tk i t).n = 0 then dpM I n b q t (I 12 0) else FP.dadd (dpM I n b q t (I 12 0)) (sv fd t (srM I n tk i t))) else dpM I n b q t (I 12 0)) := by
          unfold wtM wtG
          rw [h9, if_neg (nI_neg1 (by omega)), hic]
        refine And.intro (fun c4 => ?_) (fun c4 => ?_)
        · rw [hgm] at c4
          exact absurd c4 (nI_ge (by omega) (by omega))
        refine And.intro (inn_nI (by omega) (by decide)) ?_
        refine And.intro (fun c5 => ?_) (fun c5 => ?_)
        · have c5 : ¬ I 86 (nI i).toNatClampNeg = 0 := c5
          rw [hic] at c5
          refine And.intro (Or.inr rfl) (fin _ _ _ (kV_rf sc) ?_)
          rw [e0, if_neg c5]
        have c5 : I 86 (nI i).toNatClampNeg = 0 := c5
        rw [hic] at c5
        refine call_of (c_M_surges' g d I D hB i (by omega) t sc sd1) ?_
        rintro o J E ⟨rfl, rfl, sd', rfl, hs⟩
        by_cases c6 : (srM I n tk i t).n = 0
        · rw [if_pos c6]
          refine And.intro (fun _ => ?_) (fun z => absurd z (by decide))
          refine And.intro (Or.inr rfl) (fin _ _ _ (kV_rf sc) ?_)
          rw [e0, if_pos c5, if_pos c6]
        · rw [if_neg c6]
          refine And.intro (fun z => absurd rfl z) (fun _ => ?_)
          obtain ⟨h6, h7⟩ := hs c6
          have e7 : ovD D sd' 12 31 = sv fd t (srM I n tk i t) := h6
          refine And.intro (fb_n (fb_add (E := 341) (by omega) (fb_mono (by omega) hd) (by rw [e7]; exact h7))) ?_
          refine And.intro (Or.inr rfl) (fin _ _ _ (kV_rf sc) ?_)
          rw [e0, if_pos c5, if_neg c6, e7]
      · have c3 : ¬ I 83 i = I 91 q := c3
        have go := ih (i + 1) (by omega) (by rw [foF, if_neg c3] at hf; exact hf)
        rw [nI_succ] at go
        exact go
  have go := loop m 0 (by omega) rfl
  rw [← e1] at go
  exact go
theorem c_M_water {n m tk fd b h : Nat} (hB : KM I n m tk fd b h) (s t : Int32) (sc : MI) (sd : MD) : Con g SHc (d + 4) 186 [.ref 12, .int s, .int t] (ovX I sc) (ovD D sd)
    (Sc (some (.long (waA (ix s (nI h) && wi t 0 2591999 && !decide (3000 ≤ I 12 2)) (decide (bfM I s t (I 12 0) b = -1 ∨ sfM I (I 91 s.toNatClampNeg) t (I 12 0) n = -1)) (wtM I n m tk fd b s.toNatClampNeg t)))) (waI (ix s (nI h) && wi t 0 2591999 && !decide (3000 ≤ I 12 2)) (decide (bfM I s t (I 12 0) b = -1 ∨ sfM I (I 91 s.toNatClampNeg) t (I 12 0) n = -1)) I (tellM 1 I)) D) := by
  refine Con.mk (LV := v_M_water) k_M_water (Nat.le_of_ble_eq_true rfl) (fun K hK => ?_)
  refine hK (0, 53, o_M_water_0) (List.mem_of_getElem? (i := 0) rfl) _ _ _ _ ?_
  have hh := hB.2.2.2.2.2.1
  refine call_eq (c_M_isShoal g (d + 2) (ovX I sc) (ovD D sd) s) ?_
  have hix : wi s 0 (ovX I sc 12 33 - 1) = ix s (nI h) := by rw [show ovX I sc 12 33 = nI h from hB.2.2.2.2.2.2]; exact ix_wi (by omega)
  rw [hix]
  refine And.intro (fun c1 => ?_) (fun c1 => ?_)
  · rw [bI_0.mp c1]
    exact sc_of
  have h1 := bI_n0.mp c1
  rw [h1]
  obtain ⟨q, hq, rfl⟩ := ix_nI (by omega) h1
  have hc : (nI q).toNatClampNeg = q := nI_clamp (by omega)
  refine call_eq (c_M_isMoment g (d + 2) (ovX I sc) (ovD D sd) t) ?_
  refine And.intro (fun c2 => ?_) (fun c2 => ?_)
  · rw [bI_0.mp c2]
    exact sc_of
  have h2 := bI_n0.mp c2
  rw [h2]
  refine call_eq (c_M_isFull g (d + 3) (ovX I sc) (ovD D sd)) ?_
  refine And.intro (fun c3 => ?_) (fun c3 => ?_)
  · have h3 : ¬ 3000 ≤ I 12 2 := of_decide_eq_false (bI_0.mp c3)
    rw [decide_eq_false h3, hc]
    refine call_of (c_M_flows g d I D hB q (by omega) t sc sd) ?_
    rintro o J E ⟨sc', sd', rfl, rfl, -, ⟨h4, rfl⟩ | ⟨h4, rfl, h5⟩⟩
    · rw [decide_eq_true h4]
      refine And.intro (fun z => absurd rfl z) (fun _ => ?_)
      refine call_eq (c_M_fails g (d + 3) (ovX I sc') (ovD D sd') 1) ?_
      rw [tellM_ov]
      exact sc_of
    · rw [decide_eq_false h4]
      refine And.intro (fun _ => ?_) (fun z => absurd z (by decide))
      have e7 : ovD D sd' 12 17 = wtM I n m tk fd b q t := h5
      refine call_eq (c_M_dtl g (d + 2) _ _ (ovD D sd' 12 17) (by rw [e7]; exact fb_fin (wtM_fb I hB q t (fun z => h4 (Or.inr z))))) ?_
      rw [e7]
      exact sc_of
  · have h3 : 3000 ≤ I 12 2 := of_decide_eq_true (bI_n0.mp c3)
    rw [decide_eq_true h3]
    exact sc_of
end S49m
