section S41
variable (g : Gp) (d : Nat) (I : MI) (D : MD)
abbrev bfX (I : MI) (s t k : Int32) (b : Nat) : Int32 := ifF (I 32) (I 33) (I 34) s t k b
abbrev sfX (I : MI) (s t k : Int32) (n : Nat) : Int32 := ifF (I 16) (I 17) (I 18) s t k n
abbrev bfM (I : MI) (s t k : Int32) (b : Nat) : Int32 := ifF (I 93) (I 94) (I 95) s t k b
abbrev sfM (I : MI) (s t k : Int32) (n : Nat) : Int32 := ifF (I 75) (I 76) (I 77) s t k n
def dpX (I : MI) (n b q : Nat) (t k : Int32) : UInt64 := FP.dadd (FP.ddiv (FP.i2d (I 35 (bfX I (nI q) t k b).toNatClampNeg)) 4636737291354636288) (hgtX I n (I 30 q) t k)
def dpM (I : MI) (n b q : Nat) (t k : Int32) : UInt64 := FP.dadd (FP.ddiv (FP.i2d (I 96 (bfM I (nI q) t k b).toNatClampNeg)) 4636737291354636288) (hgtM I n (I 91 q) t k)
theorem c_X_depthAt (n b q : Nat) (hn : n ≤ 60) (hI : I 2 9 = nI n) (hw : ∀ i, i < n → ∃ w, w ≤ 8 ∧ I 20 i = nI w) (hb : b ≤ 76) (hB : I 4 8 + I 4 9 = nI b) (hq : q < 16) (t k : Int32) (hsf : ¬ sfX I (I 30 q) t k n = -1) : Con g SHc (d + 2) 51 [.ref 4, .int (nI q), .int t, .int k] I D (EqP (some (.double (if bfX I (nI q) t k b = -1 then 0 else dpX I n b q t k))) I D) := by
  refine Con.mk (LV := v_Shoals_depthAt) k_Shoals_depthAt (Nat.le_of_ble_eq_true rfl) (fun K hK => ?_)
  refine hK (0, 46, o_Shoals_depthAt_0) (List.mem_of_getElem? (i := 0) rfl) _ _ _ _ ?_
  refine call_eq (c_X_bedInForce g (d + 1) I D (nI q) t k b hb hB) ?_
  refine And.intro (fun c1 => ?_) (fun c1 => ?_)
  · rw [if_neg c1]
    rcases ifF_in (I 32) (I 33) (I 34) (nI q) t k b with h1 | ⟨j, hj, h1⟩
    · exact absurd h1 c1
    · refine And.intro (by rw [h1]; exact inn_nI (by omega) (by decide)) ?_
      refine And.intro (fb_n (mn_fb _)) ?_
      refine And.intro (inn_nI hq (by decide)) ?_
      rw [nI_clamp (show q < 2 ^ 31 by omega)]
      refine call_eq (c_X_heightAt g d I D _ t k n hn hI hw) ?_
      refine And.intro (fb_n (dp_fb (hgtX_fb I n hn hw _ t k hsf))) ?_
      exact And.intro rfl (And.intro rfl rfl)
  · rw [if_pos c1]
    exact And.intro rfl (And.intro rfl rfl)
set_option maxHeartbeats 1000000 in
theorem c_M_goesDown (n b q : Nat) (hn : n ≤ 60) (hN : I 12 8 = nI n) (hw : ∀ i, i < n → ∃ w, w ≤ 8 ∧ I 79 i = nI w) (hb : b ≤ 76) (hI : I 12 37 = nI b) (hq : q < 16) (t k : Int32) : Con g SHc (d + 2) 185 [.ref 12, .int (nI q), .int t, .int k] I D (EqP (some (.int (bI (!decide (bfM I (nI q) t k b = -1) && !decide (sfM I (I 91 q) t k n = -1))))) I (if bfM I (nI q) t k b = -1 then D else if sfM I (I 91 q) t k n = -1 then D else up2 D 12 17 (dpM I n b q t k))) := by
  refine Con.mk (LV := v_M_goesDown) k_M_goesDown (Nat.le_of_ble_eq_true rfl) (fun K hK => ?_)
  have loop : ∀ r i, i + r = b → K 6 [(0, .ref 12), (1, .int (nI q)), (2, .int t), (3, .int k), (4, .int (ifF (I 93) (I 94) (I 95) (nI q) t k i)), (5, .int (nI i))] [] I D := by
    intro r
    induction r with
    | zero =>
      intro i hi
      have hi : i = b := by omega
      subst hi
      refine hK (6, 143, o_M_goesDown_1) (List.mem_of_getElem? (i := 1) rfl) _ _ _ _ ?_
      refine And.intro (fun c => ?_) (fun c => ?_)
      · refine And.intro (fun c1 => ?_) (fun c1 => ?_)
        · rw [if_pos c1]
          exact And.intro (by decide) (And.intro (by simp [c1, bI]) (And.intro rfl rfl))
        rw [if_neg c1]
        refine And.intro (inn_nI hq (by decide)) ?_
        rw [nI_clamp (show q < 2 ^ 31 by omega)]
        refine call_eq (c_M_rises g d I D _ t k n hn hN hw) ?_
        by_cases c2 : sfM I (I 91 q) t k n = -1
        · rw [show (if sfM I (I 91 q) t k n = -1 then D else up2 D 12 17 (hgtM I n (I 91 q) t k)) = D from if_pos c2, decide_eq_true c2]
          refine And.intro (fun z => absurd rfl z) (fun _ => ?_)
          rw [if_pos c2]
          exact And.intro (by decide) (And.intro (by simp [c2, bI]) (And.intro rfl rfl))
        · rw [show (if sfM I (I 91 q) t k n = -1 then D else up2 D 12 17 (hgtM I n (I 91 q) t k)) = up2 D 12 17 (hgtM I n (I 91 q) t k) from if_neg c2, decide_eq_false c2]
          refine And.intro (fun _ => ?_) (fun z => absurd z (by decide))
          rcases ifF_in (I 93) (I 94) (I 95) (nI q) t k i with h1 | ⟨j, hj, h1⟩
          · exact absurd h1 c1
          · refine And.intro (by rw [h1]; exact inn_nI (by omega) (by decide)) ?_
            refine And.intro (fb_n (mn_fb _)) ?_
            refine And.intro (fb_n (dp_fb (hgtM_fb I n hn hw _ t k c2))) ?_
            rw [if_neg c2]
            refine And.intro (Or.inr rfl) (And.intro ?_ (And.intro rfl ?_))
            · simp [c1, c2, bI]
            · exact up2_up2 _ _ _ _ _
      · exact absurd (by rw [hI]; exact nI_le (Nat.le_refl _) (by omega)) c
    | succ r ih =>
      intro i hi
      have h60 : inn (nI i) 76 := inn_nI (by omega) (by decide)
      have hcl : (nI i).toNatClampNeg = i := nI_clamp (by omega)
      have go := ih (i + 1) (by omega)
      rw [nI_succ] at go
      have bd : ¬ ifF (I 93) (I 94) (I 95) (nI q) t k i = -1 → inn (ifF (I 93) (I 94) (I 95) (nI q) t k i) 76 := by
        intro h
        rcases ifF_in (I 93) (I 94) (I 95) (nI q) t k i with h1 | ⟨j, h1, h2⟩
        · exact absurd h1 h
        · rw [h2]
          exact inn_nI (by omega) (by decide)
      refine hK (6, 143, o_M_goesDown_1) (List.mem_of_getElem? (i := 1) rfl) _ _ _ _ ?_
      refine And.intro (fun c => ?_) (fun c => ?_)
      · rw [hI] at c
        exact absurd c (nI_ge (by omega) (by omega))
      refine And.intro (h60) ?_
      refine And.intro (fun c1 => ?_) (fun c1 => ?_)
      · rw [hcl] at c1
        rw [ifF_n (fun h => c1 h.1.1)] at go
        exact And.intro (fun _ => go) (fun h => absurd rfl h)
      refine And.intro (h60) ?_
      refine And.intro (fun c2 => ?_) (fun c2 => ?_)
      · rw [hcl] at c2
        rw [ifF_n (fun h => absurd h.1.2.1 (i32_nle.mpr c2))] at go
        exact And.intro (fun _ => go) (fun h => absurd rfl h)
      refine And.intro (h60) ?_
      refine And.intro (by decide) ?_
      refine And.intro (fun c3 => ?_) (fun c3 => ?_)
      · rw [hcl] at c3
        rw [ifF_n (fun h => absurd h.1.2.2 (i32_nle.mpr c3))] at go
        exact And.intro (fun _ => go) (fun h => absurd rfl h)
      rw [hcl] at c1 c2 c3
      refine And.intro (fun h => absurd h (by decide)) (fun _ => ?_)
      refine And.intro (fun c4 => ?_) (fun c4 => ?_)
      · rw [ifF_y ⟨⟨c1, i32_nlt.mp c2, i32_nlt.mp c3⟩, Or.inl c4⟩] at go
        exact go
      refine And.intro (h60) ?_
      refine And.intro (bd c4) ?_
      refine And.intro (fun c5 => ?_) (fun c5 => ?_)
      · rw [hcl] at c5
        rw [ifF_n (fun h => h.2.elim (fun z => c4 z) (fun z => absurd z (i32_nle.mpr c5)))] at go
        exact go
      · rw [hcl] at c5
        rw [ifF_y ⟨⟨c1, i32_nlt.mp c2, i32_nlt.mp c3⟩, Or.inr (i32_nlt.mp c5)⟩] at go
        exact go
  refine hK (0, 6, o_M_goesDown_0) (List.mem_of_getElem? (i := 0) rfl) _ _ _ _ ?_
  exact loop b 0 (by omega)
def ifD (c : Bool) (x y : Int64) : Int64 := if c = true then x else y
theorem dpX_fb (n b q : Nat) (hn : n ≤ 60) (hw : ∀ i, i < n → ∃ w, w ≤ 8 ∧ I 20 i = nI w) (t k : Int32) (h : ¬ sfX I (I 30 q) t k n = -1) : fb 301 (dpX I n b q t k) ∧ nz (dpX I n b q t k) :=
  And.intro (dp_fb (hgtX_fb I n hn hw _ t k h)) (nz_add (fb_fin (mn_fb _)) (fb_fin (hgtX_fb I n hn hw _ t k h)) (mn_nz _))
theorem dpM_fb (n b q : Nat) (hn : n ≤ 60) (hw : ∀ i, i < n → ∃ w, w ≤ 8 ∧ I 79 i = nI w) (t k : Int32) (h : ¬ sfM I (I 91 q) t k n = -1) : fb 301 (dpM I n b q t k) := dp_fb (hgtM_fb I n hn hw _ t k h)
theorem c_X_depth (n b m : Nat) (hn : n ≤ 60) (hI : I 2 9 = nI n) (hw : ∀ i, i < n → ∃ w, w ≤ 8 ∧ I 20 i = nI w) (hb : b ≤ 76) (hB : I 4 8 + I 4 9 = nI b) (hm : m ≤ 16) (hM : I 4 8 = nI m) (s t k : Int32) : Con g SHc (d + 3) 48 [.ref 0, .int s, .int t, .int k] I D (EqP (some (.long (if (ix s (nI m) && wi t 0 2591999 && wi k 0 (I 0 11)) = true then (if 3000 ≤ I 1 0 then 9221120237041090560 else if bfX I s t k b = -1 ∨ sfX I (I 30 s.toNatClampNeg) t k n = -1 then 9221120237041090560 else (dpX I n b s.toNatClampNeg t k).toInt64) else 9221120237041090560))) (if (ix s (nI m) && wi t 0 2591999 && wi k 0 (I 0 11)) = true then (if 3000 ≤ I 1 0 then I else if bfX I s t k b = -1 ∨ sfX I (I 30 s.toNatClampNeg) t k n = -1 then tellX 1 I else I) else I) D) := by
  refine Con.mk (LV := v_X_depth) k_X_depth (Nat.le_of_ble_eq_true rfl) (fun K hK => ?_)
  refine hK (0, 77, o_X_depth_0) (List.mem_of_getElem? (i := 0) rfl) _ _ _ _ ?_
  refine call_eq (c_X_isShoal g (d + 2) I D s) ?_
  rw [hM]
  refine And.intro (fun c1 => ?_) (fun c1 => ?_)
  · exact And.intro (by simp [bI_0.mp c1, ix]) (And.intro (by first | (simp [bI_0.mp c1, ix]; done) | (simp [bI_0.mp c1, ix]; rfl)) (by first | rfl | simp [bI_0.mp c1, ix]))
  refine call_eq (c_X_isMoment g (d + 2) I D t) ?_
  refine And.intro (fun c2 => ?_) (fun c2 => ?_)
  · exact And.intro (by simp [bI_0.mp c2]) (And.intro (by first | (simp [bI_0.mp c2]; done) | (simp [bI_0.mp c2]; rfl)) (by first | rfl | simp [bI_0.mp c2]))
  refine call_eq (c_X_isPast g (d + 2) I D k) ?_
  have h1 : ix s (nI m) = true := bI_n0.mp c1
  obtain ⟨q, hq, rfl⟩ := ix_nI (by omega) h1
  have h2 := bI_n0.mp c2
  refine And.intro (fun c3 => ?_) (fun c3 => ?_)
  · exact And.intro (by simp [bI_0.mp c3]) (And.intro (by first | (simp [bI_0.mp c3]; done) | (simp [bI_0.mp c3]; rfl)) (by first | rfl | simp [bI_0.mp c3]))
  have h3 := bI_n0.mp c3
  refine call_eq (c_X_areSpent g (d + 2) I D) ?_
  have hc : (nI q).toNatClampNeg = q := nI_clamp (by omega)
  refine And.intro (fun c4 => ?_) (fun c4 => ?_)
  · have h4 : ¬ 3000 ≤ I 1 0 := of_decide_eq_false (bI_0.mp c4)
    refine call_eq (c_X_hasDepth g (d + 1) I D n b q hn hI hb hB (by omega) t k) ?_
    refine And.intro (fun c5 => ?_) (fun c5 => ?_)
    · have h5 := bI_n0.mp c5
      have h6 : ¬ bfX I (nI q) t k b = -1 ∧ ¬ sfX I (I 30 q) t k n = -1 := by
        simpa using h5
      refine call_eq (c_X_depthAt g d I D n b q hn hI hw hb hB (by omega) t k h6.2) ?_
      rw [if_neg h6.1]
      refine call_eq (c_X_bitsOf g (d + 2) I D _ (fb_fin (dpX_fb I n b q hn hw t k h6.2).1) (dpX_fb I n b q hn hw t k h6.2).2) ?_
      rw [hc]
      exact And.intro (by simp [h1, h2, h3, h4, h6.1, h6.2]) (And.intro (by first | (simp [h1, h2, h3, h4, h6.1, h6.2]; done) | (simp [h1, h2, h3, h4, h6.1, h6.2]; rfl)) (by first | rfl | simp [h1, h2, h3, h4, h6.1, h6.2]))
    · have h5 := bI_0.mp c5
      have h6 : bfX I (nI q) t k b = -1 ∨ sfX I (I 30 q) t k n = -1 := by
        rcases Classical.em (bfX I (nI q) t k b = -1) with h | h
        · exact Or.inl h
        · simp only [h, decide_false, Bool.not_false, Bool.true_and] at h5
          exact Or.inr (by simpa using h5)
      refine call_eq (c_X_tell g (d + 2) I D 1) ?_
      rw [hc]
      exact And.intro (by simp [h1, h2, h3, h4, h6]) (And.intro (by first | (simp [h1, h2, h3, h4, h6]; done) | (simp [h1, h2, h3, h4, h6]; rfl)) (by first | rfl | simp [h1, h2, h3, h4, h6]))
  · exact And.intro (by simp [h1, h2, h3, of_decide_eq_true (bI_n0.mp c4)]) (And.intro (by first | (simp [h1, h2, h3, of_decide_eq_true (bI_n0.mp c4)]; done) | (simp [h1, h2, h3, of_decide_eq_true (bI_n0.mp c4)]; rfl)) (by first | rfl | simp [h1, h2, h3, of_decide_eq_true (bI_n0.mp c4)]))
theorem c_M_depth (n b m : Nat) (hn : n ≤ 60) (hI : I 12 8 = nI n) (hw : ∀ i, i < n → ∃ w, w ≤ 8 ∧ I 79 i = nI w) (hb : b ≤ 76) (hB : I 12 37 = nI b) (hm : m ≤ 16) (hM : I 12 33 = nI m) (s t k : Int32) : Con g SHc (d + 3) 184 [.ref 12, .int s, .int t, .int k] I D (EqP (some (.long (if (ix s (nI m) && wi t 0 2591999 && wi k 0 (I 12 0)) = true then (if 3000 ≤ I 12 2 then 9221120237041090560 else if bfM I s t k b = -1 ∨ sfM I (I 91 s.toNatClampNeg) t k n = -1 then 9221120237041090560 else (dpM I n b s.toNatClampNeg t k).toInt64) else 9221120237041090560))) (if (ix s (nI m) && wi t 0 2591999 && wi k 0 (I 12 0)) = true then (if 3000 ≤ I 12 2 then I else if bfM I s t k b = -1 ∨ sfM I (I 91 s.toNatClampNeg) t k n = -1 then tellM 1 I else I) else I) (if (ix s (nI m) && wi t 0 2591999 && wi k 0 (I 12 0)) = true then (if 3000 ≤ I 12 2 then D else if bfM I s t k b = -1 ∨ sfM I (I 91 s.toNatClampNeg) t k n = -1 then D else up2 D 12 17 (dpM I n b s.toNatClampNeg t k)) else D)) := by
  refine Con.mk (LV := v_M_depth) k_M_depth (Nat.le_of_ble_eq_true rfl) (fun K hK => ?_)
  refine hK (0, 56, o_M_depth_0) (List.mem_of_getElem? (i := 0) rfl) _ _ _ _ ?_
  refine call_eq (c_M_isShoal g (d + 1) I D s) ?_
  rw [hM, ix_wi (by omega)]
  refine And.intro (fun c1 => ?_) (fun c1 => ?_)
  · exact And.intro (by simp [bI_0.mp c1]) (And.intro (by first | (simp [bI_0.mp c1]; done) | (simp [bI_0.mp c1]; rfl)) (by first | rfl | simp [bI_0.mp c1]))
  refine call_eq (c_M_isKnowing g d I D t k) ?_
  have h1 : ix s (nI m) = true := bI_n0.mp c1
  obtain ⟨q, hq, rfl⟩ := ix_nI (by omega) h1
  refine And.intro (fun c2 => ?_) (fun c2 => ?_)
  · exact And.intro (by simp [Bool.and_assoc, bI_0.mp c2]) (And.intro (by first | (simp [Bool.and_assoc, bI_0.mp c2]; done) | (simp [Bool.and_assoc, bI_0.mp c2]; rfl)) (by first | rfl | simp [Bool.and_assoc, bI_0.mp c2]))
  have h23 := bI_n0.mp c2
  have h2 := (Bool.and_eq_true _ _ ▸ h23 : wi t 0 2591999 = true ∧ wi k 0 (I 12 0) = true).1
  have h3 := (Bool.and_eq_true _ _ ▸ h23 : wi t 0 2591999 = true ∧ wi k 0 (I 12 0) = true).2
  refine call_eq (c_M_isFull g (d + 2) I D) ?_
  have hc : (nI q).toNatClampNeg = q := nI_clamp (by omega)
  refine And.intro (fun c4 => ?_) (fun c4 => ?_)
  · have h4 : ¬ 3000 ≤ I 12 2 := of_decide_eq_false (bI_0.mp c4)
    refine call_eq (c_M_goesDown g d I D n b q hn hI hw hb hB (by omega) t k) ?_
    rw [hc]
    by_cases c5 : bfM I (nI q) t k b = -1
    · rw [show (if bfM I (nI q) t k b = -1 then D else if sfM I (I 91 q) t k n = -1 then D else up2 D 12 17 (dpM I n b q t k)) = D from if_pos c5, decide_eq_true c5]
      refine And.intro (fun z => absurd rfl z) (fun _ => ?_)
      refine call_eq (c_M_fails g (d + 2) I D 1) ?_
      exact And.intro (by simp [h1, h2, h3, h4, c5]) (And.intro (by first | (simp [h1, h2, h3, h4, c5]; done) | (simp [h1, h2, h3, h4, c5]; rfl)) (by first | rfl | simp [h1, h2, h3, h4, c5]))
    · by_cases c6 : sfM I (I 91 q) t k n = -1
      · rw [show (if bfM I (nI q) t k b = -1 then D else if sfM I (I 91 q) t k n = -1 then D else up2 D 12 17 (dpM I n b q t k)) = D from (if_neg c5).trans (if_pos c6), decide_eq_true c6, decide_eq_false c5]
        refine And.intro (fun z => absurd rfl z) (fun _ => ?_)
        refine call_eq (c_M_fails g (d + 2) I D 1) ?_
        exact And.intro (by simp [h1, h2, h3, h4, c6]) (And.intro (by first | (simp [h1, h2, h3, h4, c6]; done) | (simp [h1, h2, h3, h4, c6]; rfl)) (by first | rfl | simp [h1, h2, h3, h4, c6]))
      · rw [show (if bfM I (nI q) t k b = -1 then D else if sfM I (I 91 q) t k n = -1 then D else up2 D 12 17 (dpM I n b q t k)) = up2 D 12 17 (dpM I n b q t k) from (if_neg c5).trans (if_neg c6), decide_eq_false c6, decide_eq_false c5]
        refine And.intro (fun _ => ?_) (fun z => absurd z (by decide))
        refine call_eq (c_M_dtl g (d + 1) I (up2 D 12 17 (dpM I n b q t k)) (dpM I n b q t k) (fb_fin (dpM_fb I n b q hn hw t k c6))) ?_
        exact And.intro (by simp [h1, h2, h3, h4, c5, c6]) (And.intro (by first | (simp [h1, h2, h3, h4, c5, c6]; done) | (simp [h1, h2, h3, h4, c5, c6]; rfl)) (by first | rfl | simp [h1, h2, h3, h4, c5, c6]))
  · exact And.intro (by simp [h1, h2, h3, of_decide_eq_true (bI_n0.mp c4)]) (And.intro (by first | (simp [h1, h2, h3, of_decide_eq_true (bI_n0.mp c4)]; done) | (simp [h1, h2, h3, of_decide_eq_true (bI_n0.mp c4)]; rfl)) (by first | rfl | simp [h1, h2, h3, of_decide_eq_true (bI_n0.mp c4)]))
end S41
