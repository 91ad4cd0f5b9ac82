/-! WATER -/
theorem foF_in (st : Nat → Int32) (s : Int32) : ∀ r i, foF st s r i = -1 ∨ ∃ j, i ≤ j ∧ j < i + r ∧ foF st s r i = nI j
  | 0, i => Or.inl rfl
  | r + 1, i => by
    unfold foF
    split
    · exact Or.inr ⟨i, Nat.le_refl _, by omega, rfl⟩
    · rcases foF_in st s r (i + 1) with h | ⟨j, h1, h2, h3⟩
      · exact Or.inl h
      · exact Or.inr ⟨j, by omega, by omega, h3⟩
/-- scratch that a minute's trial keeps -/
def kV (sc sc' : MI) : Prop := sc' 8 8 = sc 8 8 ∧ sc' 8 9 = sc 8 9 ∧ sc' 8 10 = sc 8 10 ∧ sc' 54 = sc 54 ∧ sc' 12 87 = sc 12 87 ∧ sc' 130 = sc 130
theorem kV_rf (sc : MI) : kV sc sc := ⟨rfl, rfl, rfl, rfl, rfl, rfl⟩
theorem kV_tr {a b c : MI} (h1 : kV a b) (h2 : kV b c) : kV a c := ⟨h2.1.trans h1.1, h2.2.1.trans h1.2.1, h2.2.2.1.trans h1.2.2.1, h2.2.2.2.1.trans h1.2.2.2.1, h2.2.2.2.2.1.trans h1.2.2.2.2.1, h2.2.2.2.2.2.trans h1.2.2.2.2.2⟩
def Sk (r : Option Value) (I : MI) (D : MD) (sc : MI) : Po := fun o J E => o = r ∧ ∃ sc' sd, J = ovX I sc' ∧ E = ovD D sd ∧ kV sc sc'
theorem sk_of {r : Option Value} {I : MI} {D : MD} {sc sc' : MI} {sd : MD} (h : kV sc sc') : Sk r I D sc r (ovX I sc') (ovD D sd) := ⟨rfl, sc', sd, rfl, rfl, h⟩
theorem call_sk {g : Gp} {d mid : Nat} {As : List Value} {I0 I : MI} {D0 D : MD} {sc0 : MI} {r : Option Value} {k : Po} (hC : Con g SHc d mid As I0 D0 (Sk r I D sc0)) (hk : ∀ sc sd, kV sc0 sc → k r (ovX I sc) (ovD D sd)) : CaD g SHc (d + 1) mid As I0 D0 k :=
  ⟨_, hC, fun o J E h => by obtain ⟨rfl, sc, sd, rfl, rfl, hk2⟩ := h; exact hk sc sd hk2⟩
def wtG (dp : UInt64) (j out : Int32) (C : Srg) (v : UInt64) : UInt64 := if j = -1 then dp else if out = 0 then (if C.n = 0 then dp else FP.dadd dp v) else dp
section S49
variable (g : Gp) (d : Nat) (I : MI) (D : MD)
abbrev fgX (I : MI) (m q : Nat) : Int32 := foF (I 22) (I 30 q) m 0
abbrev fgM (I : MI) (m q : Nat) : Int32 := foF (I 83) (I 91 q) m 0
def wtX (I : MI) (n m tk fd b q : Nat) (t w : Int32) : UInt64 := wtG (dpX I n b q t w) (fgX I m q) (I 25 (fgX I m q).toNatClampNeg) (srX I n tk (fgX I m q).toNatClampNeg t w) (sv fd t (srX I n tk (fgX I m q).toNatClampNeg t w))
def wtM (I : MI) (n m tk fd b q : Nat) (t : Int32) : UInt64 := wtG (dpM I n b q t (I 12 0)) (fgM I m q) (I 86 (fgM I m q).toNatClampNeg) (srM I n tk (fgM I m q).toNatClampNeg t) (sv fd t (srM I n tk (fgM I m q).toNatClampNeg t))
theorem srX_ok {n m tk fd b h : Nat} (hB : KX I n m tk fd b h) {j : Nat} (hj : j < m) (t w : Int32) (ht : wi t 0 2591999 = true) (h0 : ¬ (srX I n tk j t w).n = 0) : fb 341 (sv fd t (srX I n tk j t w)) ∧ nz (sv fd t (srX I n tk j t w)) := by
  obtain ⟨z, f, p, q1, q2, q3, q4, q5, q6⟩ := hB.2.1.2.2 j hj
  obtain ⟨tt, htt, hte⟩ := wi_t ht
  obtain ⟨h1, h2, h3, h4⟩ := sgX_ok hB hj q4 q1 w hte htt (D := fun _ _ => 0) (la0 := 0) (S := sgF (moX I j) (shX' I j) (noX I n j w) (hhX I n j w) (fun _ => 0) 0 (enX I j z t - tk) (enX I j z t - (enX I j z t - tk))) rfl
  exact (h4 (by rw [h1]; omega)).2.2
theorem wtX_ok {n m tk fd b h : Nat} (hB : KX I n m tk fd b h) (q : Nat) (t w : Int32) (ht : wi t 0 2591999 = true) (hsf : ¬ sfX I (I 30 q) t w n = -1) : fb 342 (wtX I n m tk fd b q t w) ∧ nz (wtX I n m tk fd b q t w) := by
  have hd := dpX_fb I n b q hB.1.1 hB.1.2.2 t w hsf
  unfold wtX wtG
  split
  · exact ⟨fb_mono (by omega) hd.1, hd.2⟩
  next c1 =>
    split
    · split
      · exact ⟨fb_mono (by omega) hd.1, hd.2⟩
      next c3 =>
        rcases foF_in (I 22) (I 30 q) m 0 with h | ⟨j, h1, h2, h3⟩
        · exact absurd h c1
        · have hm := hB.2.1.1
          rw [show fgX I m q = nI j from h3, nI_clamp (by omega)] at c3 ⊢
          have := srX_ok I hB (by omega) t w ht c3
          exact ⟨fb_add (E := 341) (by omega) (fb_mono (by omega) hd.1) this.1, nz_add (fb_fin hd.1) (fb_fin this.1) hd.2⟩
    · exact ⟨fb_mono (by omega) hd.1, hd.2⟩
set_option maxHeartbeats 1000000 in
theorem c_X_waterAt {n m tk fd b h : Nat} (hB : KX I n m tk fd b h) (q : Nat) (hq : q < 16) (t w : Int32) (ht : wi t 0 2591999 = true) (hbf : ¬ bfX I (nI q) t w b = -1) (hsf : ¬ sfX I (I 30 q) t w n = -1) (sc : MI) (sd : MD) : Con g SHc (d + 3) 53 [.ref 4, .int (nI q), .int t, .int w] (ovX I sc) (ovD D sd) (Sk (some (.double (wtX I n m tk fd b q t w))) I D sc) := by
  refine Con.mk (LV := v_Shoals_waterAt) k_Shoals_waterAt (Nat.le_of_ble_eq_true rfl) (fun K hK => ?_)
  refine hK (0, 73, o_Shoals_waterAt_0) (List.mem_of_getElem? (i := 0) rfl) _ _ _ _ ?_
  have hm := hB.2.1.1
  have hqc : (nI q).toNatClampNeg = q := nI_clamp (by omega)
  have hdp : Con g SHc (d + 2) 51 [.ref 4, .int (nI q), .int t, .int w] (ovX I sc) (ovD D sd) (EqP (some (.double (dpX I n b q t w))) (ovX I sc) (ovD D sd)) := by
    have := c_X_depthAt g d (ovX I sc) (ovD D sd) n b q hB.1.1 hB.1.2.1 hB.1.2.2 hB.2.2.2.1 hB.2.2.2.2.1 hq t w hsf
    rw [if_neg (show ¬ bfX (ovX I sc) (nI q) t w b = -1 from hbf)] at this
    exact this
  refine call_eq (hdp) ?_
  refine And.intro (inn_nI hq (by decide)) ?_
  rw [hqc]
  have hfo : Con g SHc (d + 2) 54 [.ref 3, .int (ovX I sc 30 q)] (ovX I sc) (ovD D sd) (EqP (some (.int (fgX I m q))) (ovX I sc) (ovD D sd)) := c_X_firstOf g (d + 2) (ovX I sc) (ovD D sd) m hm hB.2.1.2.1 _
  refine call_eq (hfo) ?_
  rcases foF_in (I 22) (I 30 q) m 0 with h1 | ⟨j, h1, h2, h3⟩
  · rw [show fgX I m q = -1 from h1]
    refine And.intro (fun c => ?_) (fun c => ?_)
    · have hwt : wtX I n m tk fd b q t w = dpX I n b q t w := by
        unfold wtX wtG
        rw [if_pos h1]
      rw [hwt]
      exact sk_of (kV_rf sc)
    · exact absurd rfl c
  · have hj : j < m := by omega
    have hjc : (nI j).toNatClampNeg = j := nI_clamp (by omega)
    rw [show fgX I m q = nI j from h3]
    have e0 : wtX I n m tk fd b q t w = (if I 25 j = 0 then (if (srX I n tk j t w).n = 0 then dpX I n b q t w else FP.dadd (dpX I n b q t w) (sv fd t (srX I n tk j t w))) else dpX I n b q t w) := by
      unfold wtX wtG
      rw [show fgX I m q = nI j from h3, if_neg (nI_neg1 (by omega)), hjc]
    rw [e0]
    refine And.intro (fun c => ?_) (fun c => ?_)
    · exact absurd c (nI_neg1 (by omega))
    refine And.intro (inn_nI (by omega) (by decide)) ?_
    refine And.intro (fun c2 => ?_) (fun c2 => ?_)
    · have c2 : ¬ I 25 (nI j).toNatClampNeg = 0 := c2
      rw [hjc] at c2
      rw [if_neg c2]
      exact sk_of (kV_rf sc)
    have c2 : I 25 (nI j).toNatClampNeg = 0 := c2
    rw [hjc] at c2
    rw [if_pos c2]
    obtain ⟨S, s1, s2, s3, s4, hG⟩ := c_X_gather' g d I D hB j hj t w ht sc sd
    refine call_eq (hG) ?_
    rw [← s1]
    refine And.intro (fun c3 => ?_) (fun c3 => ?_)
    · have h5 : S.n = 0 := by
        rcases Nat.eq_zero_or_pos S.n with h | h
        · exact h
        · exact absurd c3 (nI_nle0 h (by omega))
      rw [if_pos h5]
      exact sk_of (kV_rf sc)
    · have h5 : ¬ S.n = 0 := fun h => c3 (by rw [h]; decide)
      obtain ⟨h6, h7, h8, h9⟩ := s4 (by omega)
      rw [if_neg h5]
      refine call_eq (c_X_fadedMiddle' g (d + 2) I D hB S (by omega) s3 h7 t sc sd) ?_
      rw [h6]
      refine And.intro (fb_n (fb_add (E := 341) (by omega) (fb_mono (by omega) (dpX_fb I n b q hB.1.1 hB.1.2.2 t w hsf).1) h8)) ?_
      exact sk_of (kV_rf sc)
/-- answer and contents of water() -/
def waA (ok no : Bool) (v : UInt64) : Int64 := match ok, no with
  | true, false => v.toInt64
  | _, _ => 9221120237041090560
def waI (ok no : Bool) (I J : MI) : MI := match ok, no with
  | true, true => J
  | _, _ => I
theorem c_X_water {n m tk fd b h : Nat} (hB : KX I n m tk fd b h) (s t : Int32) (sc : MI) (sd : MD) : Con g SHc (d + 4) 52 [.ref 0, .int s, .int t] (ovX I sc) (ovD D sd)
    (Sc (some (.long (waA (ix s (nI h) && wi t 0 2591999 && !decide (3000 ≤ I 1 0)) (decide (bfX I s t (I 0 11) b = -1 ∨ sfX I (I 30 s.toNatClampNeg) t (I 0 11) n = -1)) (wtX I n m tk fd b s.toNatClampNeg t (I 0 11))))) (waI (ix s (nI h) && wi t 0 2591999 && !decide (3000 ≤ I 1 0)) (decide (bfX I s t (I 0 11) b = -1 ∨ sfX I (I 30 s.toNatClampNeg) t (I 0 11) n = -1)) I (tellX 1 I)) D) := by
  refine Con.mk (LV := v_X_water) k_X_water (Nat.le_of_ble_eq_true rfl) (fun K hK => ?_)
  refine hK (0, 75, o_X_water_0) (List.mem_of_getElem? (i := 0) rfl) _ _ _ _ ?_
  refine call_eq (c_X_isShoal g (d + 3) (ovX I sc) (ovD D sd) s) ?_
  have hix : (decide (0 ≤ s) && decide (s < ovX I sc 4 8)) = ix s (nI h) := by rw [show ovX I sc 4 8 = nI h from hB.2.2.2.2.2.2]; rfl
  rw [hix]
  refine And.intro (fun c1 => ?_) (fun c1 => ?_)
  · rw [bI_0.mp c1]
    exact sc_of
  have h1 := bI_n0.mp c1
  rw [h1]
  have hh := hB.2.2.2.2.2.1
  obtain ⟨q, hq, rfl⟩ := ix_nI (Nat.lt_of_le_of_lt hh (by decide)) h1
  have hc : (nI q).toNatClampNeg = q := nI_clamp (by omega)
  refine call_eq (c_X_isMoment g (d + 3) (ovX I sc) (ovD D sd) t) ?_
  refine And.intro (fun c2 => ?_) (fun c2 => ?_)
  · rw [bI_0.mp c2]
    exact sc_of
  have h2 := bI_n0.mp c2
  rw [h2]
  refine call_eq (c_X_areSpent g (d + 3) (ovX I sc) (ovD D sd)) ?_
  refine And.intro (fun c3 => ?_) (fun c3 => ?_)
  · have h3 : ¬ 3000 ≤ I 1 0 := of_decide_eq_false (bI_0.mp c3)
    rw [decide_eq_false h3, hc]
    have hhd : Con g SHc (d + 3) 49 [.ref 4, .int (nI q), .int t, .int (I 0 11)] (ovX I sc) (ovD D sd) (EqP (some (.int (bI (!decide (bfX I (nI q) t (I 0 11) b = -1) && !decide (sfX I (I 30 q) t (I 0 11) n = -1))))) (ovX I sc) (ovD D sd)) := c_X_hasDepth g (d + 2) (ovX I sc) (ovD D sd) n b q hB.1.1 hB.1.2.1 hB.2.2.2.1 hB.2.2.2.2.1 (by omega) t (I 0 11)
    refine call_eq (hhd) ?_
    refine And.intro (fun c4 => ?_) (fun c4 => ?_)
    · have h4 := bI_n0.mp c4
      simp only [Bool.and_eq_true, Bool.not_eq_true', decide_eq_false_iff_not] at h4
      rw [decide_eq_false (show ¬ (bfX I (nI q) t (I 0 11) b = -1 ∨ sfX I (I 30 q) t (I 0 11) n = -1) from fun z => z.elim h4.1 h4.2)]
      refine call_sk (c_X_waterAt g d I D hB q (by omega) t (I 0 11) h2 h4.1 h4.2 sc sd) (fun sc sd _ => ?_)
      have hw := wtX_ok I hB q t (I 0 11) h2 h4.2
      refine call_eq (c_X_bitsOf g (d + 3) _ _ (wtX I n m tk fd b q t (I 0 11)) (fb_fin hw.1) hw.2) ?_
      exact sc_of
    · have h4 := bI_0.mp c4
      have h5 : bfX I (nI q) t (I 0 11) b = -1 ∨ sfX I (I 30 q) t (I 0 11) n = -1 := by
        by_cases z : bfX I (nI q) t (I 0 11) b = -1
        · exact Or.inl z
        · refine Or.inr ?_
          simpa [z] using h4
      rw [decide_eq_true h5]
      refine call_eq (c_X_tell g (d + 3) (ovX I sc) (ovD D sd) 1) ?_
      rw [tellX_ov]
      exact sc_of
  · have h3 : 3000 ≤ I 1 0 := of_decide_eq_true (bI_n0.mp c3)
    rw [decide_eq_true h3]
    exact sc_of
end S49
