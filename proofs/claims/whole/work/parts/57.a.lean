section S57
variable (g : Gp) (d : Nat) (I : MI) (D : MD)
def spP (I : MI) (D : MD) (sc0 : MI) (P : Int32) : Po := fun o J E => ∃ sc, J = ovX I sc ∧ E = D ∧ kV sc0 sc ∧ (P < 0 ∧ o = some (.int (-P)) ∨ ¬ P < 0 ∧ o = some (.int 0) ∧ sc 12 48 = P)
set_option maxHeartbeats 2000000 in
theorem c_M_streams (s c : Nat) (hs : s < 12) (hc : c ≤ 40) (hce : I 97 s = nI c) (t : Int32) (sc : MI) : Con g SHc (d + 1) 198 [.ref 12, .int (nI s), .int t] (ovX I sc) D (spP I D sc (spl (mwM I s) (hwM I s) s t c)) := by
  refine Con.mk (LV := v_M_streams) k_M_streams (Nat.le_of_ble_eq_true rfl) (fun K hK => ?_)
  have hsc : (nI s).toNatClampNeg = s := nI_clamp (by omega)
  have hs12 : inn (nI s) 12 := inn_nI hs (by decide)
  have hce' : ovX I sc 97 (nI s).toNatClampNeg = nI c := by rw [hsc]; exact hce
  have e40 : ∀ i, 40 * nI s + nI i = nI (40 * s + i) := fun i => nI_lin' 40 s i
  have loop : ∀ r i, i + r = c → K 8 [(0, .ref 12), (1, .int (nI s)), (2, .int t), (3, .int (nhF (mwM I s) (hwM I s) t i)), (4, .int (nlM (mwM I s) t (nhF (mwM I s) (hwM I s) t i))), (5, .int (nI i))] [] (ovX I sc) D := by
    intro r
    induction r with
    | zero =>
      intro i hi
      have hi : i = c := by omega
      subst hi
      refine hK (8, 174, o_M_streams_1) (List.mem_of_getElem? (i := 1) rfl) _ _ _ _ ?_
      refine And.intro (hs12) ?_
      refine And.intro (fun c1 => ?_) (fun c1 => ?_)
      · have spe : spl (mwM I s) (hwM I s) s t i = if nhF (mwM I s) (hwM I s) t i = -1 then -7 else if hrF (t - mwM I s (nhF (mwM I s) (hwM I s) t i).toNatClampNeg + 1800) < -6 ∨ 6 < hrF (t - mwM I s (nhF (mwM I s) (hwM I s) t i).toNatClampNeg + 1800) then -2 else nI (13 * s) + hrF (t - mwM I s (nhF (mwM I s) (hwM I s) t i).toNatClampNeg + 1800) + 6 := rfl
        rw [spe]
        rcases nhF_in (mwM I s) (hwM I s) t i with h | ⟨j, hj, h⟩
        · rw [h, if_pos rfl]
          refine And.intro (fun z => absurd rfl z) (fun _ => ?_)
          exact ⟨sc, rfl, rfl, kV_rf sc, Or.inl ⟨by decide, rfl⟩⟩
        · rw [h, if_neg (nI_neg1 (by omega)), nI_clamp (show j < 2 ^ 31 by omega)]
          have hcl : (40 * nI s + nI j).toNatClampNeg = 40 * s + j := by rw [e40]; exact nI_clamp (by omega)
          obtain ⟨H, hH⟩ : ∃ H, H = hrF (t - mwM I s j + 1800) := ⟨_, rfl⟩
          rw [← hH]
          have tail : ∀ H', H' = H → CaD g SHc (d + 1) 150 [.int H', .int (-6), .int 6] (ovX I sc) D (fun o I' D' => ∃ b, o = some (.int (bI b)) ∧ I' = ovX I sc ∧ D' = D ∧ b = !decide (H < -6 ∨ 6 < H)) := by
            intro H' he
            rw [he]
            refine call_eq (c_M_in g d (ovX I sc) D H (-6) 6) ⟨_, rfl, rfl, rfl, ?_⟩
            unfold wi
            by_cases q1 : H < -6
            · simp [q1, i32_nle.mpr q1]
            · by_cases q2 : 6 < H
              · simp [q2, i32_nle.mpr q2]
              · simp [q1, q2, i32_nlt.mp q1, i32_nlt.mp q2]
          have hin : inn (40 * nI s + nI j) 480 := by rw [e40]; exact inn_nI (by omega) (by decide)
          have e13 : (13 : Int32) * nI s = nI (13 * s) := pk_mul 13 s
          refine And.intro (fun _ => ?_) (fun z => absurd z (nI_neg1 (by omega)))
          refine And.intro (hin) ?_
          rw [hcl]
          have hbody : ∀ H', H' = H → wp SHc none (retP (spP I D sc (if H < -6 ∨ 6 < H then -2 else nI (13 * s) + H + 6))) (CaD g SHc (d + 1)) v_M_streams K 174 o_M_streams_1 (some 142) [(5, .int (t - I 98 (40 * s + j) + 1800)), (0, .ref 12), (1, .int (nI s)), (2, .int t), (3, .int (nI j)), (4, .int (nlM (mwM I s) t (nI j)))] [.int H'] (ovX I sc) D := by
            intro H' he
            obtain ⟨Post, hP, hk⟩ := tail H' he
            refine ⟨Post, hP, fun o J E hp => ?_⟩
            obtain ⟨b, rfl, rfl, rfl, hb⟩ := hk o J E hp
            by_cases q : H < -6 ∨ 6 < H
            · rw [decide_eq_true q] at hb
              subst hb
              rw [if_pos q]
              refine And.intro (fun z => absurd rfl z) (fun _ => ?_)
              exact ⟨sc, rfl, rfl, kV_rf sc, Or.inl ⟨by decide, rfl⟩⟩
            · rw [decide_eq_false q] at hb
              subst hb
              rw [if_neg q]
              refine And.intro (fun _ => ?_) (fun z => absurd z (by decide))
              obtain ⟨j', hj', hje⟩ := hr_n (fun z => q (Or.inl z)) (fun z => q (Or.inr z))
              refine ⟨up2 sc 12 48 (nI (13 * s) + H + 6), ?_, rfl, kV_rf sc, Or.inr ⟨?_, rfl, up2_at⟩⟩
              · rw [← ov_up2 _ _ _ _ _ rfl, he, ← e13]
              · rw [Int32.add_assoc, hje, nI_add]
                exact nI_pos (by omega)
          refine And.intro (fun c2 => ?_) (fun c2 => ?_)
          · refine And.intro (by decide) ?_
            refine hbody _ ?_
            rw [hH]
            exact (if_pos c2).symm
          · refine And.intro (by decide) ?_
            refine hbody _ ?_
            rw [hH]
            exact (if_neg c2).symm
      · rw [hce'] at c1
        exact absurd (nI_le (Nat.le_refl _) (by omega)) c1
    | succ r ih =>
      intro i hi
      have go := ih (i + 1) (by omega)
      have nxt : nhF (mwM I s) (hwM I s) t (i + 1) = if ¬ I 99 (40 * s + i) = 0 ∧ (nhF (mwM I s) (hwM I s) t i = -1 ∨ faI t (I 98 (40 * s + i)) < faI t (mwM I s (nhF (mwM I s) (hwM I s) t i).toNatClampNeg)) then nI i else nhF (mwM I s) (hwM I s) t i := rfl
      rw [nxt, nI_succ] at go
      generalize nhF (mwM I s) (hwM I s) t i = B at go ⊢
      have hcl : (40 * nI s + nI i).toNatClampNeg = 40 * s + i := by rw [e40]; exact nI_clamp (by omega)
      have hin : inn (40 * nI s + nI i) 480 := by rw [e40]; exact inn_nI (by omega) (by decide)
      have n1 : I 99 (40 * s + i) = 0 → K 8 [(0, .ref 12), (1, .int (nI s)), (2, .int t), (3, .int B), (4, .int (nlM (mwM I s) t B)), (5, .int (nI i + 1))] [] (ovX I sc) D := by
        intro q
        rw [if_neg (fun z => z.1 q)] at go
        exact go
      have n2 : ¬ B = -1 → nlM (mwM I s) t B ≤ faI t (I 98 (40 * s + i)) → K 8 [(0, .ref 12), (1, .int (nI s)), (2, .int t), (3, .int B), (4, .int (nlM (mwM I s) t B)), (5, .int (nI i + 1))] [] (ovX I sc) D := by
        intro hB q
        rw [if_neg (fun z => by
          rw [nlM, if_neg hB] at q
          exact z.2.elim hB (fun w => absurd q (i32_nle.mpr w)))] at go
        exact go
      have n3 : ¬ I 99 (40 * s + i) = 0 → (B = -1 ∨ ¬ nlM (mwM I s) t B ≤ faI t (I 98 (40 * s + i))) → ∀ F, F = faI t (I 98 (40 * s + i)) → K 8 [(0, .ref 12), (1, .int (nI s)), (2, .int t), (3, .int (nI i)), (4, .int F), (5, .int (nI i + 1))] [] (ovX I sc) D := by
        intro q1 q2 F hF
        rw [if_pos ⟨q1, by
          by_cases hB : B = -1
          · exact Or.inl hB
          · rcases q2 with q2 | q2
            · exact Or.inl q2
            · rw [nlM, if_neg hB] at q2
              exact Or.inr (i32_nle.mp q2)⟩, nlM, if_neg (nI_neg1 (by omega)), nI_clamp (show i < 2 ^ 31 by omega), ← hF] at go
        exact go
      refine hK (8, 174, o_M_streams_1) (List.mem_of_getElem? (i := 1) rfl) _ _ _ _ ?_
      refine And.intro (hs12) ?_
      refine And.intro (fun c1 => ?_) (fun c1 => ?_)
      · rw [hce'] at c1
        exact absurd c1 (nI_ge (by omega) (by omega))
      refine And.intro (hin) ?_
      rw [hcl]
      refine And.intro (fun c4 => ?_) (fun c4 => ?_)
      · have hF : t - I 98 (40 * s + i) = faI t (I 98 (40 * s + i)) := (if_pos c4).symm
        refine And.intro (hin) ?_
        rw [hcl]
        refine And.intro (fun c2 => ?_) (fun c2 => ?_)
        · exact n1 c2
        refine And.intro (fun c5 => ?_) (fun c5 => ?_)
        · exact n3 c2 (Or.inl c5) _ hF
        refine And.intro (fun c3 => ?_) (fun c3 => ?_)
        · exact n2 c5 (by rw [← hF]; exact c3)
        · exact n3 c2 (Or.inr (by rw [← hF]; exact c3)) _ hF
      · have hF : -(t - I 98 (40 * s + i)) = faI t (I 98 (40 * s + i)) := (if_neg c4).symm
        refine And.intro (hin) ?_
        rw [hcl]
        refine And.intro (fun c2 => ?_) (fun c2 => ?_)
        · exact n1 c2
        refine And.intro (fun c5 => ?_) (fun c5 => ?_)
        · exact n3 c2 (Or.inl c5) _ hF
        refine And.intro (fun c3 => ?_) (fun c3 => ?_)
        · exact n2 c5 (by rw [← hF]; exact c3)
        · exact n3 c2 (Or.inr (by rw [← hF]; exact c3)) _ hF
  refine hK (0, 8, o_M_streams_0) (List.mem_of_getElem? (i := 0) rfl) _ _ _ _ ?_
  exact loop c 0 (by omega)
/-- answer and contents of stream() -/
def stA (ok : Bool) (P : Int32) (str : Nat → Int32) : Int32 := match ok with
  | true => if P < 0 then 2143289344 else str P.toNatClampNeg
  | false => 2143289344
def stI (ok : Bool) (P : Int32) (I J : MI) : MI := match ok with
  | true => if P < 0 then J else I
  | false => I
theorem spl_i {mo hi : Nat → Int32} {s : Nat} {t : Int32} {c : Nat} (hs : s < 12) (h : ¬ spl mo hi s t c < 0) : inn (spl mo hi s t c) 156 := by
  rcases spl_c (mo := mo) (hi := hi) (t := t) (c := c) hs with h1 | h1 | ⟨j, hj, h1⟩
  · rw [h1] at h; exact absurd (by decide) h
  · rw [h1] at h; exact absurd (by decide) h
  · rw [h1]; exact inn_nI hj (by decide)
theorem c_X_stream (hW : ∀ s, s < 12 → ∃ c, c ≤ 40 ∧ I 36 s = nI c ∧ ∀ j, j < c → ∃ a, a < 2592000 ∧ I 37 (40 * s + j) = nI a) (s t : Int32) : Con g SHc (d + 3) 67 [.ref 0, .int s, .int t] I D (EqP (some (.int (stA (wi s 0 11 && wi t 0 2591999 && !decide (3000 ≤ I 1 0)) (spl (mwX I s.toNatClampNeg) (hwX I s.toNatClampNeg) s.toNatClampNeg t (I 36 s.toNatClampNeg).toNatClampNeg) (I 41)))) (stI (wi s 0 11 && wi t 0 2591999 && !decide (3000 ≤ I 1 0)) (spl (mwX I s.toNatClampNeg) (hwX I s.toNatClampNeg) s.toNatClampNeg t (I 36 s.toNatClampNeg).toNatClampNeg) I (tellX (-(spl (mwX I s.toNatClampNeg) (hwX I s.toNatClampNeg) s.toNatClampNeg t (I 36 s.toNatClampNeg).toNatClampNeg)) I)) D) := by
  refine Con.mk (LV := v_X_stream) k_X_stream (Nat.le_of_ble_eq_true rfl) (fun K hK => ?_)
  refine hK (0, 64, o_X_stream_0) (List.mem_of_getElem? (i := 0) rfl) _ _ _ _ ?_
  refine call_eq (c_X_isStation g (d + 2) I D s) ?_
  refine And.intro (fun c1 => ?_) (fun c1 => ?_)
  · rw [bI_0.mp c1]
    exact And.intro rfl (And.intro rfl rfl)
  have h1 := bI_n0.mp c1
  rw [h1]
  obtain ⟨s, hs, rfl⟩ := wi_nI (m := 11) (by decide) h1
  have hsc : (nI s).toNatClampNeg = s := nI_clamp (by omega)
  obtain ⟨c, hc, hce, hm⟩ := hW s (by omega)
  rw [hsc, hce, nI_clamp (show c < 2 ^ 31 by omega)]
  refine call_eq (c_X_isMoment g (d + 2) I D t) ?_
  refine And.intro (fun c2 => ?_) (fun c2 => ?_)
  · rw [bI_0.mp c2]
    exact And.intro rfl (And.intro rfl rfl)
  have h2 := bI_n0.mp c2
  rw [h2]
  obtain ⟨tt, htt, rfl⟩ := wi_t h2
  refine call_eq (c_X_areSpent g (d + 2) I D) ?_
  refine And.intro (fun c3 => ?_) (fun c3 => ?_)
  · rw [decide_eq_false (show ¬ 3000 ≤ I 1 0 from of_decide_eq_false (bI_0.mp c3))]
    refine call_eq (c_X_streamPlace g d I D s c tt (by omega) hc hce hm htt) ?_
    have hi := spl_i (mo := mwX I s) (hi := hwX I s) (t := nI tt) (c := c) (show s < 12 by omega)
    generalize spl (mwX I s) (hwX I s) s (nI tt) c = P at hi ⊢
    have h0 : (0 ≤ P) = ¬ P < 0 := by rw [eq_iff_iff]; exact i32_nlt.symm
    refine And.intro (fun c4 => ?_) (fun c4 => ?_)
    · refine And.intro (hi (i32_nlt.mpr c4)) ?_
      refine And.intro ?_ (And.intro ?_ rfl)
      · show _ = some (Value.int (if P < 0 then _ else _))
        rw [if_neg (i32_nlt.mpr c4)]
      · show _ = (if P < 0 then _ else _)
        rw [if_neg (i32_nlt.mpr c4)]
    · refine call_eq (c_X_tell g (d + 2) I D (-P)) ?_
      refine And.intro ?_ (And.intro ?_ rfl)
      · show _ = some (Value.int (if P < 0 then _ else _))
        rw [if_pos (i32_nle.mp c4)]
      · show _ = (if P < 0 then _ else _)
        rw [if_pos (i32_nle.mp c4)]
  · rw [decide_eq_true (show 3000 ≤ I 1 0 from of_decide_eq_true (bI_n0.mp c3))]
    exact And.intro rfl (And.intro rfl rfl)
theorem c_M_stream (hW : ∀ s, s < 12 → ∃ c, c ≤ 40 ∧ I 97 s = nI c) (s t : Int32) (sc : MI) (sd : MD) : Con g SHc (d + 3) 197 [.ref 12, .int s, .int t] (ovX I sc) (ovD D sd) (Sc (some (.int (stA (wi s 0 11 && wi t 0 2591999 && !decide (3000 ≤ I 12 2)) (spl (mwM I s.toNatClampNeg) (hwM I s.toNatClampNeg) s.toNatClampNeg t (I 97 s.toNatClampNeg).toNatClampNeg) (I 101)))) (stI (wi s 0 11 && wi t 0 2591999 && !decide (3000 ≤ I 12 2)) (spl (mwM I s.toNatClampNeg) (hwM I s.toNatClampNeg) s.toNatClampNeg t (I 97 s.toNatClampNeg).toNatClampNeg) I (tellM (-(spl (mwM I s.toNatClampNeg) (hwM I s.toNatClampNeg) s.toNatClampNeg t (I 97 s.toNatClampNeg).toNatClampNeg)) I)) D) := by
  refine Con.mk (LV := v_M_stream) k_M_stream (Nat.le_of_ble_eq_true rfl) (fun K hK => ?_)
  refine hK (0, 56, o_M_stream_0) (List.mem_of_getElem? (i := 0) rfl) _ _ _ _ ?_
  refine call_eq (c_M_isStation g (d + 1) (ovX I sc) (ovD D sd) s) ?_
  refine And.intro (fun c1 => ?_) (fun c1 => ?_)
  · rw [bI_0.mp c1]
    exact sc_of
  have h1 := bI_n0.mp c1
  rw [h1]
  obtain ⟨s, hs, rfl⟩ := wi_nI (m := 11) (by decide) h1
  have hsc : (nI s).toNatClampNeg = s := nI_clamp (by omega)
  obtain ⟨c, hc, hce⟩ := hW s (by omega)
  rw [hsc, hce, nI_clamp (show c < 2 ^ 31 by omega)]
  refine call_eq (c_M_isMoment g (d + 1) (ovX I sc) (ovD D sd) t) ?_
  refine And.intro (fun c2 => ?_) (fun c2 => ?_)
  · rw [bI_0.mp c2]
    exact sc_of
  rw [bI_n0.mp c2]
  refine call_eq (c_M_isFull g (d + 2) (ovX I sc) (ovD D sd)) ?_
  refine And.intro (fun c3 => ?_) (fun c3 => ?_)
  · rw [decide_eq_false (show ¬ 3000 ≤ I 12 2 from of_decide_eq_false (bI_0.mp c3))]
    refine call_of (c_M_streams g (d + 1) I (ovD D sd) s c (by omega) hc hce t sc) ?_
    have hi := spl_i (mo := mwM I s) (hi := hwM I s) (t := t) (c := c) (show s < 12 by omega)
    have hc3 := spl_c (mo := mwM I s) (hi := hwM I s) (t := t) (c := c) (show s < 12 by omega)
    generalize spl (mwM I s) (hwM I s) s t c = P at hi hc3 ⊢
    rintro o J E ⟨sc', rfl, rfl, -, ⟨h4, rfl⟩ | ⟨h4, rfl, h5⟩⟩
    · refine And.intro (fun z => ?_) (fun _ => ?_)
      · rcases hc3 with h | h | ⟨j, hj, h⟩
        · rw [h] at z; exact absurd z (by decide)
        · rw [h] at z; exact absurd z (by decide)
        · rw [h] at h4; exact absurd h4 (nI_pos (by omega))
      · refine call_eq (c_M_fails g (d + 2) (ovX I sc') (ovD D sd) (-P)) ?_
        rw [tellM_ov]
        refine sc_by (sc := sc') ?_ ?_ rfl
        · show _ = some (Value.int (if P < 0 then _ else _))
          rw [if_pos h4]
        · show _ = ovX (if P < 0 then _ else _) _
          rw [if_pos h4]
    · refine And.intro (fun _ => ?_) (fun z => absurd rfl z)
      have e7 : ovX I sc' 12 48 = P := h5
      refine And.intro (by rw [e7]; exact hi h4) ?_
      refine sc_by (sc := sc') ?_ ?_ rfl
      · show _ = some (Value.int (if P < 0 then _ else _))
        rw [if_neg h4, e7]
        rfl
      · show _ = ovX (if P < 0 then _ else _) _
        rw [if_neg h4]
  · rw [decide_eq_true (show 3000 ≤ I 12 2 from of_decide_eq_true (bI_n0.mp c3))]
    exact sc_of
theorem wi_6 {h : Int32} (hh : wi h (-6) 6 = true) : ∃ j, j < 13 ∧ h + 6 = nI j := by
  unfold wi at hh
  simp only [Bool.and_eq_true, decide_eq_true_eq] at hh
  exact hr_n (i32_nlt.mpr hh.1) (i32_nlt.mpr hh.2)
theorem c_X_tide (s h v : Int32) : Con g SHc (d + 1) 66 [.ref 0, .int s, .int h, .int v] I D (EqP (some (.int (if (wi s 0 11 && wi h (-6) 6 && decide (v &&& 2147483647 ≤ 1101004800)) = true then 1 else -2))) (if (wi s 0 11 && wi h (-6) 6 && decide (v &&& 2147483647 ≤ 1101004800)) = true then up2 I 41 (13 * s.toNatClampNeg + (h + 6).toNatClampNeg) v else I) D) := by
  refine Con.mk (LV := v_X_tide) k_X_tide (Nat.le_of_ble_eq_true rfl) (fun K hK => ?_)
  refine hK (0, 52, o_X_tide_0) (List.mem_of_getElem? (i := 0) rfl) _ _ _ _ ?_
  refine call_eq (c_X_isStation g d I D s) ?_
  refine And.intro (fun c1 => ?_) (fun c1 => ?_)
  · rw [bI_0.mp c1]
    exact And.intro rfl (And.intro rfl rfl)
  have h1 := bI_n0.mp c1
  rw [h1]
  refine call_eq (c_X_isWithin g d I D h (-6) 6) ?_
  refine And.intro (fun c2 => ?_) (fun c2 => ?_)
  · rw [bI_0.mp c2]
    exact And.intro rfl (And.intro rfl rfl)
  have h2 := bI_n0.mp c2
  rw [h2]
  refine And.intro (fun c3 => ?_) (fun c3 => ?_)
  · rw [decide_eq_true c3]
    obtain ⟨s, hs, rfl⟩ := wi_nI (m := 11) (by decide) h1
    obtain ⟨j, hj, hje⟩ := wi_6 h2
    have e : nI s * 13 + h + 6 = nI (13 * s + j) := by rw [Int32.add_assoc, hje, show (13 : Int32) = nI 13 from rfl, pk_mul, nI_add, Nat.mul_comm s 13]
    refine And.intro (by rw [e]; exact inn_nI (by omega) (by decide)) ?_
    rw [e, nI_clamp (show 13 * s + j < 2 ^ 31 by omega), hje, nI_clamp (show j < 2 ^ 31 by omega), nI_clamp (show s < 2 ^ 31 by omega)]
    exact And.intro rfl (And.intro rfl rfl)
  · rw [decide_eq_false c3]
    exact And.intro rfl (And.intro rfl rfl)
end S57
