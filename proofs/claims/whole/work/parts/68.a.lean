section S68
variable (g : Gp) (d : Nat) (I : MI) (D : MD)
def psP (I : MI) (D : MD) (sc : MI) (r : Int32) : Po := fun o J E => ∃ sc' sd', kV sc sc' ∧ o = some (.int r) ∧ J = ovX I sc' ∧ E = ovD D sd'
set_option maxHeartbeats 2000000 in
theorem c_M_passes {n m tk fd b h : Nat} (hB : KM I n m tk fd b h) (p q s c tt : Nat) (hp : p < 24) (hq : I 118 p = nI q) (hqh : q < 16) (hs : I 91 q = nI s) (hs12 : s < 12) (hc : c ≤ 40) (hce : I 97 s = nI c) (hstr : ∀ j, j < 156 → noF (I 101 j) = false) (hmk : mkB (I 120 p) = true) (hmn : noF (I 120 p) = true → I 120 p = 2143289344) (nd : Int32) (bd : Bool) (sc : MI) (sd : MD) : Con g SHc (d + 4) 233 [.ref 12, .int (nI p), .int (nI tt), .int nd, .int (bI bd)] (ovX I sc) (ovD D sd) (psP I D sc (legA bd (I 12 71) (I 12 72) (nI tt) (decide (bfM I (nI q) (nI tt) (I 12 0) b = -1 ∨ sfM I (nI s) (nI tt) (I 12 0) n = -1)) (wtM I n m tk fd b q (nI tt)) nd (I 120 p) (spl (mwM I s) (hwM I s) s (nI tt) c) (I 101))) := by
  refine Con.mk (LV := v_M_passes) k_M_passes (Nat.le_of_ble_eq_true rfl) (fun K hK => ?_)
  refine hK (0, 156, o_M_passes_0) (List.mem_of_getElem? (i := 0) rfl) _ _ _ _ ?_
  have hpc : (nI p).toNatClampNeg = p := nI_clamp (by omega)
  have hp24 : inn (nI p) 24 := inn_nI hp (by decide)
  have hqc : (nI q).toNatClampNeg = q := nI_clamp (by omega)
  have day : ¬ (bd = true ∧ (nI tt - nI tt / 86400 * 86400 < I 12 71 ∨ ¬ nI tt - nI tt / 86400 * 86400 < I 12 72)) → wp SHc none (retP (psP I D sc (legA bd (I 12 71) (I 12 72) (nI tt) (decide (bfM I (nI q) (nI tt) (I 12 0) b = -1 ∨ sfM I (nI s) (nI tt) (I 12 0) n = -1)) (wtM I n m tk fd b q (nI tt)) nd (I 120 p) (spl (mwM I s) (hwM I s) s (nI tt) c) (I 101)))) (CaD g SHc (d + 4)) v_M_passes K 156 o_M_passes_0 (some 31) (lv_args 0 [.ref 12, .int (nI p), .int (nI tt), .int nd, .int (bI bd)]) [] (ovX I sc) (ovD D sd) := by
    intro cd
    have hl : ∀ no wt nd mk P str, legA bd (I 12 71) (I 12 72) (nI tt) no wt nd mk P str = if no = true then -1 else if ¬ 0 ≤ Op.cmpValue (FP.dcmp wt (FP.ddiv (FP.i2d nd) 4636737291354636288)) .g then 0 else if mk = 2143289344 then 1 else if P < 0 then P else if str P.toNatClampNeg &&& 2147483647 < mk &&& 2147483647 then 1 else 0 := by
      intro no wt nd mk P str
      unfold legA
      rw [if_neg cd]
    rw [hl]
    refine And.intro (hp24) ?_
    rw [hpc, show ovX I sc 118 p = nI q from hq]
    refine call_of (c_M_flows g d I D hB q hqh (nI tt) sc sd) ?_
    rw [hs]
    rintro o J E ⟨sc2, sd2, rfl, rfl, hk2, ⟨h4, rfl⟩ | ⟨h4, rfl, h5⟩⟩
    · rw [decide_eq_true h4, if_pos rfl]
      refine And.intro (fun z => absurd rfl z) (fun _ => ?_)
      exact ⟨sc2, sd2, hk2, rfl, rfl, rfl⟩
    rw [decide_eq_false h4, if_neg (by decide)]
    refine And.intro (fun _ => ?_) (fun z => absurd z (by decide))
    have hwf : fb 342 (wtM I n m tk fd b q (nI tt)) := wtM_fb I hB q (nI tt) (by rw [hs]; exact fun z => h4 (Or.inr z))
    have el : ovD D sd2 12 17 = wtM I n m tk fd b q (nI tt) := h5
    refine And.intro (fb_n (mn_fb _)) ?_
    refine And.intro (fun c5 => ?_) (fun c5 => ?_)
    · rw [el, cv_lg hwf (mn_fb nd)] at c5
      rw [if_neg (fun z => z c5)]
      refine And.intro (hp24) ?_
      rw [hpc]
      refine And.intro (fun c6 => ?_) (fun c6 => ?_)
      · have c6 : ¬ I 120 p = 2143289344 := c6
        rw [if_neg c6]
        have hnm : noF (I 120 p) = false := by
          cases z : noF (I 120 p) with
          | false => rfl
          | true => exact absurd (hmn z) c6
        refine And.intro (hp24) ?_
        rw [hpc, show ovX I sc2 118 p = nI q from hq]
        refine And.intro (inn_nI hqh (by decide)) ?_
        rw [hqc, show ovX I sc2 91 q = nI s from hs]
        refine call_of (c_M_streams g (d + 2) I (ovD D sd2) s c hs12 hc hce (nI tt) sc2) ?_
        have hi := spl_i (mo := mwM I s) (hi := hwM I s) (t := nI tt) (c := c) hs12
        have hc3 := spl_c (mo := mwM I s) (hi := hwM I s) (t := nI tt) (c := c) hs12
        generalize spl (mwM I s) (hwM I s) s (nI tt) c = P at hi hc3 ⊢
        rintro o J E ⟨sc3, rfl, rfl, hk3, ⟨h7, rfl⟩ | ⟨h7, rfl, h8⟩⟩
        · rw [if_pos h7]
          refine And.intro (fun z => ?_) (fun _ => ?_)
          · rcases hc3 with w | w | ⟨j, hj, w⟩
            · rw [w] at z; exact absurd z (by decide)
            · rw [w] at z; exact absurd z (by decide)
            · rw [w] at h7; exact absurd h7 (nI_pos (by omega))
          · refine ⟨sc3, sd2, kV_tr hk2 hk3, ?_, rfl, rfl⟩
            rw [Int32.neg_neg]
        · rw [if_neg h7]
          refine And.intro (fun _ => ?_) (fun z => absurd rfl z)
          have e7 : ovX I sc3 12 48 = P := h8
          have hj := hi h7
          have hst : noF (I 101 P.toNatClampNeg) = false := by
            rcases hc3 with w | w | ⟨j, hj, w⟩
            · rw [w] at h7; exact absurd (by decide) h7
            · rw [w] at h7; exact absurd (by decide) h7
            · rw [w, nI_clamp (by omega)]
              exact hstr j hj
          refine And.intro (by rw [e7]; exact hj) ?_
          rw [e7]
          refine And.intro (sn_of (fun z => by rw [show noF (ovX I sc3 101 P.toNatClampNeg) = false from hst] at z; cases z)) ?_
          refine And.intro (fun c9 => ?_) (fun c9 => ?_)
          · refine And.intro (hp24) ?_
            rw [hpc]
            refine And.intro (sn_of (fun z => by rw [show noF (ovX I sc3 120 p) = false from hnm] at z; cases z)) ?_
            have hA := fl_a hst hnm hmk c9
            refine And.intro (fun c10 => ?_) (fun c10 => ?_)
            · rw [if_neg (i32_nlt.mpr (hA.mp c10))]
              exact ⟨sc3, sd2, kV_tr hk2 hk3, rfl, rfl, rfl⟩
            · rw [if_pos (i32_nle.mp (fun z => c10 (hA.mpr z)))]
              exact ⟨sc3, sd2, kV_tr hk2 hk3, rfl, rfl, rfl⟩
          · refine And.intro (hp24) ?_
            rw [hpc]
            refine And.intro (sn_of (fun z => by rw [show noF (ovX I sc3 120 p) = false from hnm] at z; cases z)) ?_
            have hA := fl_b hst hnm hmk c9
            refine And.intro (fun c10 => ?_) (fun c10 => ?_)
            · rw [if_neg (i32_nlt.mpr (hA.mp c10))]
              exact ⟨sc3, sd2, kV_tr hk2 hk3, rfl, rfl, rfl⟩
            · rw [if_pos (i32_nle.mp (fun z => c10 (hA.mpr z)))]
              exact ⟨sc3, sd2, kV_tr hk2 hk3, rfl, rfl, rfl⟩
      · have c6 : I 120 p = 2143289344 := c6
        rw [if_pos c6]
        exact ⟨sc2, sd2, hk2, rfl, rfl, rfl⟩
    · rw [el, cv_lg hwf (mn_fb nd)] at c5
      rw [if_pos c5]
      exact ⟨sc2, sd2, hk2, rfl, rfl, rfl⟩
  have out : bd = true → (nI tt - nI tt / 86400 * 86400 < I 12 71 ∨ ¬ nI tt - nI tt / 86400 * 86400 < I 12 72) → psP I D sc (legA bd (I 12 71) (I 12 72) (nI tt) (decide (bfM I (nI q) (nI tt) (I 12 0) b = -1 ∨ sfM I (nI s) (nI tt) (I 12 0) n = -1)) (wtM I n m tk fd b q (nI tt)) nd (I 120 p) (spl (mwM I s) (hwM I s) s (nI tt) c) (I 101)) (some (.int 0)) (ovX I sc) (ovD D sd) := by
    intro h0 z
    unfold legA
    rw [if_pos ⟨h0, z⟩]
    exact ⟨sc, sd, kV_rf sc, rfl, rfl, rfl⟩
  refine And.intro (fun c1 => ?_) (fun c1 => ?_)
  · exact day (fun z => by rw [bI_0.mp c1] at z; exact absurd z.1 (by decide))
  have h1 := bI_n0.mp c1
  refine And.intro (by decide) ?_
  refine And.intro (fun c2 => ?_) (fun c2 => ?_)
  · exact out h1 (Or.inl c2)
  refine And.intro (by decide) ?_
  refine And.intro (fun c3 => ?_) (fun c3 => ?_)
  · exact day (fun z => z.2.elim c2 (fun w => w c3))
  · exact out h1 (Or.inr c3)
end S68
