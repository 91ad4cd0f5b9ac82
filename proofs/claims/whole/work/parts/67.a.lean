/-! a LEG of a voyage -/
theorem cv_ge {x y : Int} : 0 ≤ Op.cmpValue (some (compare x y)) .g ↔ y ≤ x := by
  rcases Int.lt_trichotomy x y with c | c | c
  · rw [(FP.Core.compare_lt_iff _ _).mpr c]
    exact ⟨fun z => absurd z (by decide), fun z => by omega⟩
  · rw [c, (FP.Core.compare_eq_iff _ _).mpr rfl]
    exact ⟨fun _ => Int.le_refl _, fun _ => by decide⟩
  · rw [(FP.Core.compare_gt_iff _ _).mpr c]
    exact ⟨fun _ => by omega, fun _ => by decide⟩
theorem ms_id {b : Int32} (h : 0 ≤ b) : (b &&& 2147483647).toInt = b.toInt := by
  have h1 := u32_of b
  have h2 := and_abs b
  have h5 := Int32.toInt_lt b
  rw [i32_le, show ((0 : Int32)).toInt = 0 by decide] at h
  rw [if_pos h] at h1
  rw [h2]
  omega
theorem ms_nn (b : Int32) : 0 ≤ (b &&& 2147483647).toInt := by
  rw [and_abs]
  omega
theorem ord_ms {b : Int32} (h : 0 ≤ (ordI b).toInt) : (ordI b).toInt = (b &&& 2147483647).toInt := by
  unfold ordI at h ⊢
  by_cases c : 0 ≤ b
  · rw [if_pos c]
    exact (ms_id c).symm
  · rw [if_neg c] at h ⊢
    have h1 := ms_nn b
    have h2 := Int32.toInt_lt (b &&& 2147483647)
    rw [Int32.toInt_neg, bm32 (by omega) (by omega)] at h ⊢
    omega
theorem ord_mk {mk : Int32} (hn : noF mk = false) (h : mkB mk = true) : (ordI mk).toInt = (mk &&& 2147483647).toInt := by
  refine ord_ms ?_
  unfold mkB at h
  rw [hn, Bool.or_false] at h
  unfold ordI
  rcases Bool.or_eq_true_iff.mp h with c | c
  · have c := of_decide_eq_true c
    rw [if_pos c]
    rw [i32_le, show ((0 : Int32)).toInt = 0 by decide] at c
    exact c
  · have c := of_decide_eq_true c
    by_cases c2 : 0 ≤ mk
    · rw [if_pos c2]
      rw [i32_le, show ((0 : Int32)).toInt = 0 by decide] at c2
      exact c2
    · rw [if_neg c2, c]
      decide
theorem fl_a {s mk : Int32} (hs : noF s = false) (hm : noF mk = false) (hk : mkB mk = true) (c : 0 ≤ Op.cmpValue (FP.fcmp s.toUInt32 0) .g) : 0 ≤ Op.cmpValue (FP.fcmp s.toUInt32 mk.toUInt32) .g ↔ mk &&& 2147483647 ≤ s &&& 2147483647 := by
  have h1 := fcmp_ord (a := s) (b := 0) hs (by decide)
  rw [show (0 : Int32).toUInt32 = 0 from rfl, show (ordI 0).toInt = 0 by decide] at h1
  rw [h1, cv_ge] at c
  rw [fcmp_ord hs hm, cv_ge, i32_le, ord_ms c, ord_mk hm hk]
theorem fl_b {s mk : Int32} (hs : noF s = false) (hm : noF mk = false) (hk : mkB mk = true) (c : ¬ 0 ≤ Op.cmpValue (FP.fcmp s.toUInt32 0) .g) : 0 ≤ Op.cmpValue (FP.fcmp (FP.fneg s.toUInt32) mk.toUInt32) .g ↔ mk &&& 2147483647 ≤ s &&& 2147483647 := by
  have h1 := fcmp_ord (a := s) (b := 0) hs (by decide)
  rw [show (0 : Int32).toUInt32 = 0 from rfl, show (ordI 0).toInt = 0 by decide] at h1
  have c2 := c
  rw [h1, cv_ge] at c2
  have hlt : FP.Core.fcmp s.toUInt32 0 = some .lt := by
    have h2 : FP.fcmp s.toUInt32 0 = some .lt := by rw [h1, (FP.Core.compare_lt_iff _ _).mpr (by omega)]
    exact h2
  have e1 : FP.fneg s.toUInt32 = (s &&& 2147483647).toUInt32 := by
    have h3 := FP.Core.abs_neg32 hlt
    have h4 : FP.fIsNaN s.toUInt32 = false := by
      have := noF_val.mp hs
      exact (FP.Core.notNaN_iff32 _).mpr this
    rw [FP.fneg_core h4, ← h3]
    rfl
  have e2 : (s &&& 2147483647) &&& 2147483647 = s &&& 2147483647 := by
    rw [Int32.and_assoc]
    rfl
  have hs2 : noF (s &&& 2147483647) = false := by
    unfold noF at hs ⊢
    rw [e2]
    exact hs
  have h0 : (0 : Int32) ≤ s &&& 2147483647 := by
    rw [i32_le, show ((0 : Int32)).toInt = 0 by decide]
    exact ms_nn s
  have eo : ordI (s &&& 2147483647) = s &&& 2147483647 := by
    unfold ordI
    rw [if_pos h0]
  rw [e1, fcmp_ord hs2 hm, cv_ge, i32_le, eo, ord_mk hm hk]
def legA (bd : Bool) (rs st u : Int32) (no : Bool) (wt : UInt64) (nd mk P : Int32) (str : Nat → Int32) : Int32 :=
  if bd = true ∧ (u - u / 86400 * 86400 < rs ∨ ¬ u - u / 86400 * 86400 < st) then 0 else if no = true then -1 else if ¬ 0 ≤ Op.cmpValue (FP.dcmp wt (FP.ddiv (FP.i2d nd) 4636737291354636288)) .g then 0 else if mk = 2143289344 then 1 else if P < 0 then P else if str P.toNatClampNeg &&& 2147483647 < mk &&& 2147483647 then 1 else 0
theorem cv_lg {E F : Nat} {a b : UInt64} (ha : fb E a) (hb : fb F b) : Op.cmpValue (FP.dcmp a b) .l = Op.cmpValue (FP.dcmp a b) .g := by
  have h1 : FP.Core.val64 a ≠ .nan := by
    obtain ⟨s, c, q, h, -⟩ := ha
    rw [h]; intro z; cases z
  have h2 : FP.Core.val64 b ≠ .nan := by
    obtain ⟨s, c, q, h, -⟩ := hb
    rw [h]; intro z; cases z
  cases h : FP.dcmp a b with
  | none =>
    have := (FP.Core.dcmp_none a b).mp h
    exact absurd this (fun z => z.elim h1 h2)
  | some o => cases o <;> rfl
/-- what a trial leaves where it answers r: below 0 a FINDING -/
def anX (r : Int32) : Int32 := if r < 0 then -10 + r else r
def stX (r : Int32) (I : MI) : MI := if r < 0 then tellX (-r) I else I
theorem wi_tt {tt : Nat} (h : tt < 2592000) : wi (nI tt) 0 2591999 = true := by
  have h1 : nI tt ≤ (2591999 : Int32) := show nI tt ≤ nI 2591999 from nI_le (by omega) (by decide)
  unfold wi
  rw [decide_eq_true (nI_pos' (by omega)), decide_eq_true h1]
  rfl
section S67
variable (g : Gp) (d : Nat) (I : MI) (D : MD)
def tlP (I : MI) (D : MD) (sc : MI) (r : Int32) : Po := fun o J E => ∃ sc' sd', kV sc sc' ∧ o = some (.int (anX r)) ∧ J = ovX (stX r I) sc' ∧ E = ovD D sd'
set_option maxHeartbeats 2000000 in
theorem c_X_tryLeg {n m tk fd b h : Nat} (hB : KX I n m tk fd b h) (p q s c tt : Nat) (hp : p < 24) (hq : I 51 p = nI q) (hqh : q < 16) (hs : I 30 q = nI s) (hs12 : s < 12) (hc : c ≤ 40) (hce : I 36 s = nI c) (hm : ∀ j, j < c → ∃ a, a < 2592000 ∧ I 37 (40 * s + j) = nI a) (htt : tt < 2592000) (w : Int32) (sc : MI) (sd : MD) : Con g SHc (d + 4) 118 [.ref 8, .int (nI p), .int (nI tt), .int w] (ovX I sc) (ovD D sd) (tlP I D sc (legA (!decide (sc 8 10 = 0)) (I 8 6) (I 8 7) (nI tt) (decide (bfX I (nI q) (nI tt) w b = -1 ∨ sfX I (nI s) (nI tt) w n = -1)) (wtX I n m tk fd b q (nI tt) w) (sc 8 8) (I 53 p) (spl (mwX I s) (hwX I s) s (nI tt) c) (I 41))) := by
  refine Con.mk (LV := v_Voyages_tryLeg) k_Voyages_tryLeg (Nat.le_of_ble_eq_true rfl) (fun K hK => ?_)
  refine hK (0, 177, o_Voyages_tryLeg_0) (List.mem_of_getElem? (i := 0) rfl) _ _ _ _ ?_
  have hpc : (nI p).toNatClampNeg = p := nI_clamp (by omega)
  have hp24 : inn (nI p) 24 := inn_nI hp (by decide)
  have hqc : (nI q).toNatClampNeg = q := nI_clamp (by omega)
  have htw := wi_tt htt
  have eb : ovX I sc 8 10 = sc 8 10 := rfl
  have day : ∀ (cd : ¬ (¬ sc 8 10 = 0 ∧ (nI tt - nI tt / 86400 * 86400 < I 8 6 ∨ ¬ nI tt - nI tt / 86400 * 86400 < I 8 7))), wp SHc none (retP (tlP I D sc (legA (!decide (sc 8 10 = 0)) (I 8 6) (I 8 7) (nI tt) (decide (bfX I (nI q) (nI tt) w b = -1 ∨ sfX I (nI s) (nI tt) w n = -1)) (wtX I n m tk fd b q (nI tt) w) (sc 8 8) (I 53 p) (spl (mwX I s) (hwX I s) s (nI tt) c) (I 41)))) (CaD g SHc (d + 4)) v_Voyages_tryLeg K 177 o_Voyages_tryLeg_0 (some 31) (lv_args 0 [.ref 8, .int (nI p), .int (nI tt), .int w]) [] (ovX I sc) (ovD D sd) := by
    intro cd
    have hl : ∀ no wt nd mk P str, legA (!decide (sc 8 10 = 0)) (I 8 6) (I 8 7) (nI tt) no wt nd mk P str = if no = true then -1 else if ¬ 0 ≤ Op.cmpValue (FP.dcmp wt (FP.ddiv (FP.i2d nd) 4636737291354636288)) .g then 0 else if mk = 2143289344 then 1 else if P < 0 then P else if str P.toNatClampNeg &&& 2147483647 < mk &&& 2147483647 then 1 else 0 := by
      intro no wt nd mk P str
      unfold legA
      rw [if_neg (fun z => cd ⟨by simpa using z.1, z.2⟩)]
    rw [hl]
    refine And.intro (hp24) ?_
    rw [hpc, show ovX I sc 51 p = nI q from hq]
    have hhd : Con g SHc (d + 3) 49 [.ref 4, .int (nI q), .int (nI tt), .int w] (ovX I sc) (ovD D sd) (EqP (some (.int (bI (!decide (bfX I (nI q) (nI tt) w b = -1) && !decide (sfX I (nI s) (nI tt) w n = -1))))) (ovX I sc) (ovD D sd)) := by
      have := c_X_hasDepth g (d + 2) (ovX I sc) (ovD D sd) n b q hB.1.1 hB.1.2.1 hB.2.2.2.1 hB.2.2.2.2.1 hqh (nI tt) w
      rw [show ovX I sc 30 q = nI s from hs] at this
      exact this
    refine call_eq (hhd) ?_
    refine And.intro (fun c4 => ?_) (fun c4 => ?_)
    · have h4 := bI_n0.mp c4
      simp only [Bool.and_eq_true, Bool.not_eq_true', decide_eq_false_iff_not] at h4
      rw [decide_eq_false (show ¬ (bfX I (nI q) (nI tt) w b = -1 ∨ sfX I (nI s) (nI tt) w n = -1) from fun z => z.elim h4.1 h4.2), if_neg (by decide)]
      have hsf : ¬ sfX I (I 30 q) (nI tt) w n = -1 := by rw [hs]; exact h4.2
      refine call_sk (c_X_waterAt g d I D hB q hqh (nI tt) w htw h4.1 hsf sc sd) (fun sc2 sd2 hk2 => ?_)
      have hwf := (wtX_ok I hB q (nI tt) w htw hsf).1
      have en : ovX I sc2 8 8 = sc 8 8 := hk2.1
      refine And.intro (fb_n (mn_fb _)) ?_
      refine And.intro (fun c5 => ?_) (fun c5 => ?_)
      · rw [en] at c5
        rw [if_neg (fun z => z c5)]
        refine And.intro (hp24) ?_
        rw [hpc]
        refine And.intro (fun c6 => ?_) (fun c6 => ?_)
        · have c6 : ¬ I 53 p = 2143289344 := c6
          rw [if_neg c6]
          refine And.intro (inn_nI hqh (by decide)) ?_
          rw [hqc, show ovX I sc2 30 q = nI s from hs]
          have hP : Con g SHc (d + 3) 68 [.ref 5, .int (nI s), .int (nI tt)] (ovX I sc2) (ovD D sd2) (EqP (some (.int (spl (mwX I s) (hwX I s) s (nI tt) c))) (ovX I sc2) (ovD D sd2)) := c_X_streamPlace g (d + 1) (ovX I sc2) (ovD D sd2) s c tt hs12 hc hce hm htt
          refine call_eq (hP) ?_
          have hi := spl_i (mo := mwX I s) (hi := hwX I s) (t := nI tt) (c := c) hs12
          generalize spl (mwX I s) (hwX I s) s (nI tt) c = P at hi ⊢
          refine And.intro (fun c7 => ?_) (fun c7 => ?_)
          · rw [if_neg (i32_nlt.mpr c7)]
            refine And.intro (hi (i32_nlt.mpr c7)) ?_
            refine And.intro (hp24) ?_
            rw [hpc]
            refine And.intro (fun c8 => ?_) (fun c8 => ?_)
            · have c8 : I 53 p &&& 2147483647 ≤ I 41 P.toNatClampNeg &&& 2147483647 := c8
              rw [if_neg (i32_nlt.mpr c8)]
              exact ⟨sc2, sd2, hk2, rfl, rfl, rfl⟩
            · have c8 : ¬ I 53 p &&& 2147483647 ≤ I 41 P.toNatClampNeg &&& 2147483647 := c8
              rw [if_pos (i32_nle.mp c8)]
              exact ⟨sc2, sd2, hk2, rfl, rfl, rfl⟩
          · have h7 := i32_nle.mp c7
            rw [if_pos h7]
            refine call_eq (c_X_tell g (d + 3) (ovX I sc2) (ovD D sd2) (-P)) ?_
            rw [tellX_ov]
            refine ⟨sc2, sd2, hk2, ?_, ?_, rfl⟩
            · unfold anX
              rw [if_pos h7, Int32.sub_eq_add_neg, Int32.neg_neg]
            · unfold stX
              rw [if_pos h7]
        · have c6 : I 53 p = 2143289344 := c6
          rw [if_pos c6]
          exact ⟨sc2, sd2, hk2, rfl, rfl, rfl⟩
      · rw [en] at c5
        rw [if_pos c5]
        exact ⟨sc2, sd2, hk2, rfl, rfl, rfl⟩
    · have h4 := bI_0.mp c4
      have h5 : bfX I (nI q) (nI tt) w b = -1 ∨ sfX I (nI s) (nI tt) w n = -1 := by
        by_cases z : bfX I (nI q) (nI tt) w b = -1
        · exact Or.inl z
        · refine Or.inr ?_
          simpa [z] using h4
      rw [decide_eq_true h5, if_pos rfl]
      refine call_eq (c_X_tell g (d + 3) (ovX I sc) (ovD D sd) 1) ?_
      rw [tellX_ov]
      exact ⟨sc, sd, kV_rf sc, rfl, rfl, rfl⟩
  refine And.intro (fun c1 => ?_) (fun c1 => ?_)
  · exact day (fun z => z.1 c1)
  have c1 : ¬ sc 8 10 = 0 := c1
  have out : (nI tt - nI tt / 86400 * 86400 < I 8 6 ∨ ¬ nI tt - nI tt / 86400 * 86400 < I 8 7) → tlP I D sc (legA (!decide (sc 8 10 = 0)) (I 8 6) (I 8 7) (nI tt) (decide (bfX I (nI q) (nI tt) w b = -1 ∨ sfX I (nI s) (nI tt) w n = -1)) (wtX I n m tk fd b q (nI tt) w) (sc 8 8) (I 53 p) (spl (mwX I s) (hwX I s) s (nI tt) c) (I 41)) (some (.int 0)) (ovX I sc) (ovD D sd) := by
    intro z
    unfold legA
    rw [if_pos ⟨by rw [decide_eq_false c1]; rfl, z⟩]
    exact ⟨sc, sd, kV_rf sc, rfl, rfl, rfl⟩
  refine And.intro (by decide) ?_
  refine And.intro (fun c2 => ?_) (fun c2 => ?_)
  · exact out (Or.inl c2)
  refine And.intro (by decide) ?_
  refine And.intro (fun c3 => ?_) (fun c3 => ?_)
  · exact day (fun z => z.2.elim c2 (fun w => w c3))
  · exact out (Or.inr c3)
end S67
