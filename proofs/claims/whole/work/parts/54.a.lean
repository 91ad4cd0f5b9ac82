/-! found, range, spring -/
theorem wi_m2 {v : Int32} {c : Nat} (hc : c ≤ 40) (h : wi v 0 (nI c - 2) = true) : ∃ j, j + 1 < c ∧ v = nI j := by
  unfold wi at h
  simp only [Bool.and_eq_true, decide_eq_true_eq] at h
  obtain ⟨h1, h2⟩ := h
  obtain ⟨j, hj, rfl⟩ := nI_of (x := v) (fun z => absurd h1 (i32_nle.mpr z))
  have e : (nI c - 2).toInt = (c : Int) - 2 := pk_sub_toInt (a := c) (b := 2) (by omega) (by decide)
  rw [i32_le, e, nI_toInt hj] at h2
  exact ⟨j, by omega, rfl⟩
/-- the RANGE of two HEIGHTS, as the class and as the reference reckon it -/
def rgX (a b : UInt64) : UInt64 := if Op.cmpValue (FP.dcmp a b) .l < 0 then FP.dsub b a else FP.dsub a b
def rgM (a b : UInt64) : UInt64 := if Op.cmpValue (FP.dcmp a b) .l ≤ 0 then FP.dsub b a else FP.dsub a b
theorem eq_nz {a b : UInt64} (ha : nz a) (hb : nz b) (h : FP.dcmp a b = some .eq) : a = b := by
  by_cases hz : FP.Core.DZero b
  · have hz2 : FP.Core.DZero a := by
      have h1 := FP.Core.zero_iff.mpr hz
      have h2 := (FP.Core.dcmp_some h)
      rw [← FP.Core.zero_iff]
      have h3 := (FP.Core.dcmp_eq_key h2.1 h2.2).mp h
      have h4 := (FP.Core.dcmp_eq_key h2.2 (FP.Core.dcmp_some h1).2).mp h1
      exact (FP.Core.dcmp_eq_key h2.1 (FP.Core.dcmp_some h1).2).mpr (h3.trans h4)
    rcases FP.Core.zero_bits (FP.Core.zero_iff.mpr hz) with h1 | h1
    · rcases FP.Core.zero_bits (FP.Core.zero_iff.mpr hz2) with h2 | h2
      · rw [h1, h2]
      · exact absurd h2 ha
    · exact absurd h1 hb
  · exact FP.Core.eq_bits hz h
theorem rg_eq {a b : UInt64} (ha : nz a) (hb : nz b) : rgX a b = rgM a b := by
  unfold rgX rgM
  cases h : FP.dcmp a b with
  | none => rfl
  | some o =>
    cases o with
    | lt => rfl
    | gt => rfl
    | eq =>
      have := eq_nz ha hb h
      subst this
      simp
theorem rgX_ok {a b : UInt64} (ha : fb 300 a ∧ nz a) (hb : fb 300 b ∧ nz b) : fb 301 (rgX a b) ∧ nz (rgX a b) := by
  unfold rgX
  split
  · exact ⟨fb_sub (by omega) hb.1 ha.1, nz_sub (fb_fin hb.1) (fb_fin ha.1) hb.2⟩
  · exact ⟨fb_sub (by omega) ha.1 hb.1, nz_sub (fb_fin ha.1) (fb_fin hb.1) ha.2⟩
theorem rgM_ok {a b : UInt64} (ha : fb 300 a) (hb : fb 300 b) : fb 301 (rgM a b) := by
  unfold rgM
  split
  · exact fb_sub (by omega) hb ha
  · exact fb_sub (by omega) ha hb
/-- the first of the greatest (smallest) -/
def spF (ok : Nat → Bool) (r : Nat → UInt64) (gr : Bool) : Nat → Int32 × UInt64
  | 0 => (-1, 0)
  | i + 1 => if ok i = true ∧ ((spF ok r gr i).1 = -1 ∨ upB gr (spF ok r gr i).2 (r i) = true) then (nI i, r i) else spF ok r gr i
section S54
variable (g : Gp) (d : Nat) (I : MI) (D : MD)
theorem c_X_found (hW : ∀ s, s < 12 → ∃ c, c ≤ 40 ∧ I 36 s = nI c) (s i w : Int32) : Con g SHc (d + 3) 60 [.ref 0, .int s, .int i, .int w] I D (EqP (some (.int (if (wi s 0 11 && wi w 0 1) = true then (if ix i (I 36 s.toNatClampNeg) = true then (if w = 0 then I 37 (40 * s.toNatClampNeg + i.toNatClampNeg) else if I 38 (40 * s.toNatClampNeg + i.toNatClampNeg) = 0 then 0 else 1) else -1) else -2))) I D) := by
  refine Con.mk (LV := v_X_found) k_X_found (Nat.le_of_ble_eq_true rfl) (fun K hK => ?_)
  refine hK (0, 82, o_X_found_0) (List.mem_of_getElem? (i := 0) rfl) _ _ _ _ ?_
  refine call_eq (c_X_isStation g (d + 2) I D s) ?_
  refine And.intro (fun c1 => ?_) (fun c1 => ?_)
  · exact And.intro (by simp [bI_0.mp c1]) (And.intro (by first | (simp [bI_0.mp c1]; done) | (simp [bI_0.mp c1]; rfl)) (by first | rfl | simp [bI_0.mp c1]))
  have h1 := bI_n0.mp c1
  refine call_eq (c_X_isWithin g (d + 2) I D w 0 1) ?_
  refine And.intro (fun c2 => ?_) (fun c2 => ?_)
  · have h2 := bI_n0.mp c2
    rw [h1, h2]
    obtain ⟨s, hs, rfl⟩ := wi_nI (m := 11) (by decide) h1
    have hsc : (nI s).toNatClampNeg = s := nI_clamp (by omega)
    obtain ⟨c, hc, hce⟩ := hW s (by omega)
    rw [hsc, hce]
    refine And.intro (inn_nI (by omega) (by decide)) ?_
    rw [hsc]
    refine call_eq (c_X_isWithin g (d + 2) I D i 0 (I 36 s - 1)) ?_
    rw [hce, ix_wi (show c < 2 ^ 31 by omega)]
    refine And.intro (fun c3 => ?_) (fun c3 => ?_)
    · have h3 := bI_n0.mp c3
      rw [h3]
      obtain ⟨j, hj, rfl⟩ := ix_nI (show c < 2 ^ 31 by omega) h3
      have hjc : (nI j).toNatClampNeg = j := nI_clamp (by omega)
      have ep : nI s * 40 + nI j = nI (40 * s + j) := by rw [show (40 : Int32) = nI 40 from rfl, pk_mul, nI_add, Nat.mul_comm s 40]
      have hin : inn (nI s * 40 + nI j) 480 := by rw [ep]; exact inn_nI (by omega) (by decide)
      have ec : (nI s * 40 + nI j).toNatClampNeg = 40 * s + j := by rw [ep]; exact nI_clamp (by omega)
      refine And.intro (fun c4 => ?_) (fun c4 => ?_)
      · refine And.intro (hin) ?_
        rw [ec, hjc]
        refine And.intro (fun c5 => ?_) (fun c5 => ?_)
        · exact And.intro (by simp [c4, c5]) (And.intro rfl rfl)
        · exact And.intro (by simp [c4, c5]) (And.intro rfl rfl)
      · refine And.intro (hin) ?_
        rw [ec, hjc]
        exact And.intro (by simp [c4]) (And.intro rfl rfl)
    · rw [bI_0.mp c3]
      exact And.intro rfl (And.intro rfl rfl)
  · exact And.intro (by simp [bI_0.mp c2]) (And.intro (by first | (simp [bI_0.mp c2]; done) | (simp [bI_0.mp c2]; rfl)) (by first | rfl | simp [bI_0.mp c2]))
theorem c_M_found (hW : ∀ s, s < 12 → ∃ c, c ≤ 40 ∧ I 97 s = nI c) (s i w : Int32) : Con g SHc (d + 3) 191 [.ref 12, .int s, .int i, .int w] I D (EqP (some (.int (if (wi s 0 11 && wi w 0 1) = true then (if ix i (I 97 s.toNatClampNeg) = true then (if w = 0 then I 98 (40 * s.toNatClampNeg + i.toNatClampNeg) else if I 99 (40 * s.toNatClampNeg + i.toNatClampNeg) = 0 then 0 else 1) else -1) else -2))) I D) := by
  refine Con.mk (LV := v_M_found) k_M_found (Nat.le_of_ble_eq_true rfl) (fun K hK => ?_)
  refine hK (0, 75, o_M_found_0) (List.mem_of_getElem? (i := 0) rfl) _ _ _ _ ?_
  refine call_eq (c_M_isStation g (d + 1) I D s) ?_
  refine And.intro (fun c1 => ?_) (fun c1 => ?_)
  · exact And.intro (by simp [bI_0.mp c1]) (And.intro (by first | (simp [bI_0.mp c1]; done) | (simp [bI_0.mp c1]; rfl)) (by first | rfl | simp [bI_0.mp c1]))
  have h1 := bI_n0.mp c1
  refine call_eq (c_M_in g (d + 2) I D w 0 1) ?_
  refine And.intro (fun c2 => ?_) (fun c2 => ?_)
  · have h2 := bI_n0.mp c2
    rw [h1, h2]
    obtain ⟨s, hs, rfl⟩ := wi_nI (m := 11) (by decide) h1
    have hsc : (nI s).toNatClampNeg = s := nI_clamp (by omega)
    obtain ⟨c, hc, hce⟩ := hW s (by omega)
    rw [hsc, hce]
    refine And.intro (inn_nI (by omega) (by decide)) ?_
    rw [hsc]
    refine call_eq (c_M_in g (d + 2) I D i 0 (I 97 s - 1)) ?_
    rw [hce, ix_wi (show c < 2 ^ 31 by omega)]
    refine And.intro (fun c3 => ?_) (fun c3 => ?_)
    · have h3 := bI_n0.mp c3
      rw [h3]
      obtain ⟨j, hj, rfl⟩ := ix_nI (show c < 2 ^ 31 by omega) h3
      have hjc : (nI j).toNatClampNeg = j := nI_clamp (by omega)
      have ep : 40 * nI s + nI j = nI (40 * s + j) := by rw [show (40 : Int32) = nI 40 from rfl, pk_mul, nI_add]
      have hin : inn (40 * nI s + nI j) 480 := by rw [ep]; exact inn_nI (by omega) (by decide)
      have ec : (40 * nI s + nI j).toNatClampNeg = 40 * s + j := by rw [ep]; exact nI_clamp (by omega)
      refine And.intro (fun c4 => ?_) (fun c4 => ?_)
      · refine And.intro (hin) ?_
        rw [ec, hjc]
        refine And.intro (fun c5 => ?_) (fun c5 => ?_)
        · exact And.intro (by simp [c4, c5]) (And.intro rfl rfl)
        · exact And.intro (by simp [c4, c5]) (And.intro rfl rfl)
      · refine And.intro (hin) ?_
        rw [ec, hjc]
        exact And.intro (by simp [c4]) (And.intro rfl rfl)
    · rw [bI_0.mp c3]
      exact And.intro rfl (And.intro rfl rfl)
  · exact And.intro (by simp [bI_0.mp c2]) (And.intro (by first | (simp [bI_0.mp c2]; done) | (simp [bI_0.mp c2]; rfl)) (by first | rfl | simp [bI_0.mp c2]))
theorem c_X_hasR (s j : Nat) (hs : s < 12) (hj : j + 1 < 40) : Con g SHc d 62 [.ref 5, .int (nI s), .int (nI j)] I D (EqP (some (.int (bI (!decide (I 38 (40 * s + j) = I 38 (40 * s + j + 1)))))) I D) := by
  refine Con.mk (LV := v_Waters_hasRange) k_Waters_hasRange (Nat.le_of_ble_eq_true rfl) (fun K hK => ?_)
  refine hK (0, 33, o_Waters_hasRange_0) (List.mem_of_getElem? (i := 0) rfl) _ _ _ _ ?_
  have ep : nI s * 40 + nI j = nI (40 * s + j) := by rw [show (40 : Int32) = nI 40 from rfl, pk_mul, nI_add, Nat.mul_comm s 40]
  have ep1 : nI s * 40 + nI j + 1 = nI (40 * s + j + 1) := by rw [ep, nI_1]
  have ec : (nI s * 40 + nI j).toNatClampNeg = 40 * s + j := by rw [ep]; exact nI_clamp (by omega)
  have ec1 : (nI s * 40 + nI j + 1).toNatClampNeg = 40 * s + j + 1 := by rw [ep1]; exact nI_clamp (by omega)
  refine And.intro (by rw [ep]; exact inn_nI (by omega) (by decide)) ?_
  refine And.intro (by rw [ep1]; exact inn_nI (by omega) (by decide)) ?_
  rw [ec, ec1]
  refine And.intro (fun c => ?_) (fun c => ?_)
  · rw [decide_eq_true c]
    exact And.intro (by decide) (And.intro rfl (And.intro rfl rfl))
  · rw [decide_eq_false c]
    exact And.intro (by decide) (And.intro rfl (And.intro rfl rfl))
theorem c_X_rgO (s j : Nat) (hs : s < 12) (hj : j + 1 < 40) (h1 : fb 300 (D 39 (40 * s + j))) (h2 : fb 300 (D 39 (40 * s + j + 1))) : Con g SHc d 63 [.ref 5, .int (nI s), .int (nI j)] I D (EqP (some (.double (rgX (D 39 (40 * s + j)) (D 39 (40 * s + j + 1))))) I D) := by
  refine Con.mk (LV := v_Waters_rangeOf) k_Waters_rangeOf (Nat.le_of_ble_eq_true rfl) (fun K hK => ?_)
  refine hK (0, 46, o_Waters_rangeOf_0) (List.mem_of_getElem? (i := 0) rfl) _ _ _ _ ?_
  have ep : nI s * 40 + nI j = nI (40 * s + j) := by rw [show (40 : Int32) = nI 40 from rfl, pk_mul, nI_add, Nat.mul_comm s 40]
  have ep1 : nI s * 40 + nI j + 1 = nI (40 * s + j + 1) := by rw [ep, nI_1]
  have ec : (nI s * 40 + nI j).toNatClampNeg = 40 * s + j := by rw [ep]; exact nI_clamp (by omega)
  have ec1 : (nI s * 40 + nI j + 1).toNatClampNeg = 40 * s + j + 1 := by rw [ep1]; exact nI_clamp (by omega)
  refine And.intro (by rw [ep]; exact inn_nI (by omega) (by decide)) ?_
  refine And.intro (by rw [ep1]; exact inn_nI (by omega) (by decide)) ?_
  rw [ec, ec1]
  unfold rgX
  refine And.intro (fun c => ?_) (fun c => ?_)
  · refine And.intro (fb_n (fb_sub (E := 300) (by omega) h2 h1)) ?_
    exact And.intro (by rw [if_pos c]) (And.intro rfl rfl)
  · refine And.intro (fb_n (fb_sub (E := 300) (by omega) h1 h2)) ?_
    exact And.intro (by rw [if_neg c]) (And.intro rfl rfl)
theorem c_M_hasR (s j : Nat) (hs : s < 12) (hj : j + 1 < 40) : Con g SHc d 193 [.ref 12, .int (nI s), .int (nI j)] I D (EqP (some (.int (bI (!decide (I 99 (40 * s + j) = I 99 (40 * s + j + 1)))))) I D) := by
  refine Con.mk (LV := v_M_isRange) k_M_isRange (Nat.le_of_ble_eq_true rfl) (fun K hK => ?_)
  refine hK (0, 33, o_M_isRange_0) (List.mem_of_getElem? (i := 0) rfl) _ _ _ _ ?_
  have ep : 40 * nI s + nI j = nI (40 * s + j) := by rw [show (40 : Int32) = nI 40 from rfl, pk_mul, nI_add]
  have ep1 : 40 * nI s + nI j + 1 = nI (40 * s + j + 1) := by rw [ep, nI_1]
  have ec : (40 * nI s + nI j).toNatClampNeg = 40 * s + j := by rw [ep]; exact nI_clamp (by omega)
  have ec1 : (40 * nI s + nI j + 1).toNatClampNeg = 40 * s + j + 1 := by rw [ep1]; exact nI_clamp (by omega)
  refine And.intro (by rw [ep]; exact inn_nI (by omega) (by decide)) ?_
  refine And.intro (by rw [ep1]; exact inn_nI (by omega) (by decide)) ?_
  rw [ec, ec1]
  refine And.intro (fun c => ?_) (fun c => ?_)
  · rw [decide_eq_true c]
    exact And.intro (by decide) (And.intro rfl (And.intro rfl rfl))
  · rw [decide_eq_false c]
    exact And.intro (by decide) (And.intro rfl (And.intro rfl rfl))
theorem c_M_rgO (s j : Nat) (hs : s < 12) (hj : j + 1 < 40) (h1 : fb 300 (D 100 (40 * s + j))) (h2 : fb 300 (D 100 (40 * s + j + 1))) : Con g SHc d 194 [.ref 12, .int (nI s), .int (nI j)] I D (EqP (some (.double (rgM (D 100 (40 * s + j)) (D 100 (40 * s + j + 1))))) I D) := by
  refine Con.mk (LV := v_M_rangeOf) k_M_rangeOf (Nat.le_of_ble_eq_true rfl) (fun K hK => ?_)
  refine hK (0, 46, o_M_rangeOf_0) (List.mem_of_getElem? (i := 0) rfl) _ _ _ _ ?_
  have ep : 40 * nI s + nI j = nI (40 * s + j) := by rw [show (40 : Int32) = nI 40 from rfl, pk_mul, nI_add]
  have ep1 : 40 * nI s + nI j + 1 = nI (40 * s + j + 1) := by rw [ep, nI_1]
  have ec : (40 * nI s + nI j).toNatClampNeg = 40 * s + j := by rw [ep]; exact nI_clamp (by omega)
  have ec1 : (40 * nI s + nI j + 1).toNatClampNeg = 40 * s + j + 1 := by rw [ep1]; exact nI_clamp (by omega)
  refine And.intro (by rw [ep]; exact inn_nI (by omega) (by decide)) ?_
  refine And.intro (by rw [ep1]; exact inn_nI (by omega) (by decide)) ?_
  rw [ec, ec1]
  unfold rgM
  refine And.intro (fun c => ?_) (fun c => ?_)
  · refine And.intro (fb_n (fb_sub (E := 300) (by omega) h2 h1)) ?_
    exact And.intro (by rw [if_pos c]) (And.intro rfl rfl)
  · refine And.intro (fb_n (fb_sub (E := 300) (by omega) h1 h2)) ?_
    exact And.intro (by rw [if_neg c]) (And.intro rfl rfl)
theorem c_X_range (hW : ∀ s, s < 12 → ∃ c, c ≤ 40 ∧ I 36 s = nI c) (hH : ∀ s c, s < 12 → I 36 s = nI c → ∀ j, j < c → fb 300 (D 39 (40 * s + j)) ∧ nz (D 39 (40 * s + j))) (s i : Int32) : Con g SHc (d + 3) 61 [.ref 0, .int s, .int i] I D (EqP (some (.long (waA (wi s 0 11 && wi i 0 (I 36 s.toNatClampNeg - 2) && !decide (3000 ≤ I 1 0)) (decide (I 38 (40 * s.toNatClampNeg + i.toNatClampNeg) = I 38 (40 * s.toNatClampNeg + i.toNatClampNeg + 1))) (rgX (D 39 (40 * s.toNatClampNeg + i.toNatClampNeg)) (D 39 (40 * s.toNatClampNeg + i.toNatClampNeg + 1)))))) (waI (wi s 0 11 && wi i 0 (I 36 s.toNatClampNeg - 2) && !decide (3000 ≤ I 1 0)) (decide (I 38 (40 * s.toNatClampNeg + i.toNatClampNeg) = I 38 (40 * s.toNatClampNeg + i.toNatClampNeg + 1))) I (tellX 7 I)) D) := by
  refine Con.mk (LV := v_X_range) k_X_range (Nat.le_of_ble_eq_true rfl) (fun K hK => ?_)
  refine hK (0, 79, o_X_range_0) (List.mem_of_getElem? (i := 0) rfl) _ _ _ _ ?_
  refine call_eq (c_X_isStation g (d + 2) I D s) ?_
  refine And.intro (fun c1 => ?_) (fun c1 => ?_)
  · rw [bI_0.mp c1]
    exact And.intro rfl (And.intro rfl rfl)
  have h1 := bI_n0.mp c1
  rw [h1]
  obtain ⟨s, hs, rfl⟩ := wi_nI (m := 11) (by decide) h1
  have hsc : (nI s).toNatClampNeg = s := nI_clamp (by omega)
  obtain ⟨c, hc, hce⟩ := hW s (by omega)
  refine And.intro (inn_nI (by omega) (by decide)) ?_
  rw [hsc]
  refine call_eq (c_X_isWithin g (d + 2) I D i 0 (I 36 s - 2)) ?_
  rw [hce]
  refine And.intro (fun c2 => ?_) (fun c2 => ?_)
  · rw [bI_0.mp c2]
    exact And.intro rfl (And.intro rfl rfl)
  have h2 := bI_n0.mp c2
  rw [h2]
  obtain ⟨j, hj, rfl⟩ := wi_m2 hc h2
  have hjc : (nI j).toNatClampNeg = j := nI_clamp (by omega)
  rw [hjc]
  refine call_eq (c_X_areSpent g (d + 2) I D) ?_
  refine And.intro (fun c3 => ?_) (fun c3 => ?_)
  · rw [decide_eq_false (show ¬ 3000 ≤ I 1 0 from of_decide_eq_false (bI_0.mp c3))]
    refine call_eq (c_X_hasR g (d + 2) I D s j (by omega) (by omega)) ?_
    by_cases c4 : I 38 (40 * s + j) = I 38 (40 * s + j + 1)
    · rw [decide_eq_true c4]
      refine And.intro (fun z => absurd rfl z) (fun _ => ?_)
      refine call_eq (c_X_tell g (d + 2) I D 7) ?_
      exact And.intro rfl (And.intro rfl rfl)
    · rw [decide_eq_false c4]
      refine And.intro (fun _ => ?_) (fun z => absurd z (by decide))
      refine call_eq (c_X_rgO g (d + 2) I D s j (by omega) (by omega) (hH s c (by omega) hce j (by omega)).1 (hH s c (by omega) hce (j + 1) (by omega)).1) ?_
      have hr := rgX_ok (hH s c (by omega) hce j (by omega)) (hH s c (by omega) hce (j + 1) (by omega))
      refine call_eq (c_X_bitsOf g (d + 2) I D _ (fb_fin hr.1) hr.2) ?_
      exact And.intro rfl (And.intro rfl rfl)
  · rw [decide_eq_true (show 3000 ≤ I 1 0 from of_decide_eq_true (bI_n0.mp c3))]
    exact And.intro rfl (And.intro rfl rfl)
theorem c_M_range (hW : ∀ s, s < 12 → ∃ c, c ≤ 40 ∧ I 97 s = nI c) (hH : ∀ s c, s < 12 → I 97 s = nI c → ∀ j, j < c → fb 300 (D 100 (40 * s + j))) (s i : Int32) : Con g SHc (d + 3) 192 [.ref 12, .int s, .int i] I D (EqP (some (.long (waA (wi s 0 11 && wi i 0 (I 97 s.toNatClampNeg - 2) && !decide (3000 ≤ I 12 2)) (decide (I 99 (40 * s.toNatClampNeg + i.toNatClampNeg) = I 99 (40 * s.toNatClampNeg + i.toNatClampNeg + 1))) (rgM (D 100 (40 * s.toNatClampNeg + i.toNatClampNeg)) (D 100 (40 * s.toNatClampNeg + i.toNatClampNeg + 1)))))) (waI (wi s 0 11 && wi i 0 (I 97 s.toNatClampNeg - 2) && !decide (3000 ≤ I 12 2)) (decide (I 99 (40 * s.toNatClampNeg + i.toNatClampNeg) = I 99 (40 * s.toNatClampNeg + i.toNatClampNeg + 1))) I (tellM 7 I)) D) := by
  refine Con.mk (LV := v_M_range) k_M_range (Nat.le_of_ble_eq_true rfl) (fun K hK => ?_)
  refine hK (0, 64, o_M_range_0) (List.mem_of_getElem? (i := 0) rfl) _ _ _ _ ?_
  refine call_eq (c_M_isStation g (d + 1) I D s) ?_
  refine And.intro (fun c1 => ?_) (fun c1 => ?_)
  · rw [bI_0.mp c1]
    exact And.intro rfl (And.intro rfl rfl)
  have h1 := bI_n0.mp c1
  rw [h1]
  obtain ⟨s, hs, rfl⟩ := wi_nI (m := 11) (by decide) h1
  have hsc : (nI s).toNatClampNeg = s := nI_clamp (by omega)
  obtain ⟨c, hc, hce⟩ := hW s (by omega)
  refine And.intro (inn_nI (by omega) (by decide)) ?_
  rw [hsc]
  refine call_eq (c_M_in g (d + 2) I D i 0 (I 97 s - 2)) ?_
  rw [hce]
  refine And.intro (fun c2 => ?_) (fun c2 => ?_)
  · rw [bI_0.mp c2]
    exact And.intro rfl (And.intro rfl rfl)
  have h2 := bI_n0.mp c2
  rw [h2]
  obtain ⟨j, hj, rfl⟩ := wi_m2 hc h2
  have hjc : (nI j).toNatClampNeg = j := nI_clamp (by omega)
  rw [hjc]
  refine call_eq (c_M_isFull g (d + 2) I D) ?_
  refine And.intro (fun c3 => ?_) (fun c3 => ?_)
  · rw [decide_eq_false (show ¬ 3000 ≤ I 12 2 from of_decide_eq_false (bI_0.mp c3))]
    refine call_eq (c_M_hasR g (d + 2) I D s j (by omega) (by omega)) ?_
    by_cases c4 : I 99 (40 * s + j) = I 99 (40 * s + j + 1)
    · rw [decide_eq_true c4]
      refine And.intro (fun z => absurd rfl z) (fun _ => ?_)
      refine call_eq (c_M_fails g (d + 2) I D 7) ?_
      exact And.intro rfl (And.intro rfl rfl)
    · rw [decide_eq_false c4]
      refine And.intro (fun _ => ?_) (fun z => absurd z (by decide))
      refine call_eq (c_M_rgO g (d + 2) I D s j (by omega) (by omega) (hH s c (by omega) hce j (by omega)) (hH s c (by omega) hce (j + 1) (by omega))) ?_
      have hr := rgM_ok (hH s c (by omega) hce j (by omega)) (hH s c (by omega) hce (j + 1) (by omega))
      refine call_eq (c_M_dtl g (d + 1) I D _ (fb_fin hr)) ?_
      exact And.intro rfl (And.intro rfl rfl)
  · rw [decide_eq_true (show 3000 ≤ I 12 2 from of_decide_eq_true (bI_n0.mp c3))]
    exact And.intro rfl (And.intro rfl rfl)
end S54
