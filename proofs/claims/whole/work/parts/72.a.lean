/-! windows of the class -/
def wfF (mn : Nat → Int32) (a0 : Nat) (W0 : Wn) (F0 : Fi) : Nat → Wn × Fi
  | 0 => (W0, F0)
  | k + 1 => (wkF (wfF mn a0 W0 F0 k).1 (nI (a0 + k)) (mn k), telF (mn k) (wfF mn a0 W0 F0 k).2)
def bsT (T : Tr) (bs : List Int32) : Nat → Tr
  | 0 => T
  | k + 1 => begsT (bsT T bs k) bs
theorem bsT_le {T : Tr} (h : T.1 ≤ 100) (bs : List Int32) : ∀ k, (bsT T bs k).1 ≤ 100
  | 0 => h
  | k + 1 => begsT_le bs (bsT_le h bs k)
theorem wfF_ok {mn : Nat → Int32} {a0 : Nat} {W0 : Wn} {F0 : Fi} (h1 : W0.1 ≤ 20) (h2 : W0.2.2.2.2.2 = true → 0 < W0.1) : ∀ k, (wfF mn a0 W0 F0 k).1.1 ≤ 20 ∧ ((wfF mn a0 W0 F0 k).1.2.2.2.2.2 = true → 0 < (wfF mn a0 W0 F0 k).1.1)
  | 0 => ⟨h1, h2⟩
  | k + 1 => ⟨wkF_le (wfF_ok h1 h2 k).1 _ _, wkF_op (wfF_ok h1 h2 k).2 _ _⟩
def wdOk (ms : Nat) (s rt a n : Int32) : Bool := ix s (nI ms) && wi rt 0 5 && wi n 1 120 && wi a 0 43199 && wi (a + n - 1) 0 43199
theorem wdOk_e {ms : Nat} {s rt a n : Int32} (h : wdOk ms s rt a n = true) : ix s (nI ms) = true ∧ ∃ r a' n', rt = nI r ∧ a = nI a' ∧ n = nI n' ∧ r < 6 ∧ 1 ≤ n' ∧ n' ≤ 120 ∧ a' + n' ≤ 43200 := by
  unfold wdOk at h
  simp only [Bool.and_eq_true] at h
  obtain ⟨⟨⟨⟨h1, h2⟩, h3⟩, h4⟩, h5⟩ := h
  obtain ⟨r, hr, rfl⟩ := wi_nI (m := 5) (by decide) h2
  obtain ⟨n', hn1, hn, rfl⟩ := wi_ab (a := 1) (b := 120) (by decide) (by decide) h3
  obtain ⟨a', ha, rfl⟩ := wi_nI (m := 43199) (by decide) h4
  rw [nI_add, show nI (a' + n') - 1 = nI (a' + n' - 1) from nI_sub (b := 1) (by omega)] at h5
  obtain ⟨j, hj, he⟩ := wi_nI (m := 43199) (by decide) h5
  rw [nI_eq (by omega) (by omega)] at he
  exact ⟨h1, r, a', n', rfl, rfl, rfl, by omega, hn1, hn, by omega⟩
section S72
variable (g : Gp) (d : Nat) (I : MI) (D : MD)
abbrev W0X (I : MI) : Wn := (0, I 60, I 61, 0, 0, false)
abbrev F0X (I : MI) : Fi := (I 1 0, I 1 1)
theorem nfX_0 : trX (wnX (fiX I (F0X I)) (W0X I)) (0, I 49) = up2 (up2 (up2 (up2 (up2 I 6 8 0) 10 2 0) 10 3 0) 10 4 0) 10 5 0 := by
  unfold trX wnX fiX F0X W0X
  funext x y
  simp only [up2_at2, upc_at]
  by_cases h1 : x = 1
  · subst h1
    by_cases h2 : y = 0
    · subst h2; simp
    · by_cases h3 : y = 1
      · subst h3; simp
      · simp [h2, h3]
  · by_cases h4 : x = 60
    · subst h4; simp
    · by_cases h5 : x = 61
      · subst h5; simp
      · by_cases h6 : x = 49
        · subst h6; simp
        · by_cases h7 : x = 10
          · subst h7
            simp [bI]
            by_cases q2 : y = 2 <;> by_cases q3 : y = 3 <;> by_cases q4 : y = 4 <;> by_cases q5 : y = 5 <;> simp_all [nI_0]
          · by_cases h8 : x = 6
            · subst h8
              by_cases q8 : y = 8 <;> simp_all [nI_0]
            · simp [h1, h4, h5, h6, h7, h8]
theorem c_X_wbegin : Con g SHc d 120 [.ref 10] I D (EqP none (up2 (up2 (up2 (up2 I 10 2 0) 10 3 0) 10 4 0) 10 5 0) D) := by
  refine Con.mk (LV := v_Windows_begin) k_Windows_begin (Nat.le_of_ble_eq_true rfl) (fun K hK => ?_)
  refine hK (0, 21, o_Windows_begin_0) (List.mem_of_getElem? (i := 0) rfl) _ _ _ _ ?_
  exact And.intro (Or.inl rfl) (And.intro rfl (And.intro rfl rfl))
abbrev mnX (I : MI) (n m tk fd b r : Nat) (s w : Int32) (a : Nat) (k : Nat) : Int32 := minX I n m tk fd b r s (nI (a + k)) w
abbrev wfX (I : MI) (n m tk fd b r : Nat) (s w : Int32) (a : Nat) : Nat → Wn × Fi := wfF (mnX I n m tk fd b r s w a) a (W0X I) (F0X I)
abbrev wdX (I : MI) (n m tk fd b : Nat) (s rt a k : Int32) : Wn × Fi := wfX I n m tk fd b rt.toNatClampNeg s (I 0 11) a.toNatClampNeg k.toNatClampNeg
set_option maxHeartbeats 1000000 in
theorem c_X_windows {n m tk fd b h ms : Nat} (hB : KX I n m tk fd b h) (hR : RX I) (hW : WX I) (hms : ms ≤ 40) (hS : I 6 9 = nI ms) (hP : shOk (I 42) (I 46) (I 47) ms) (s rt a k : Int32) (sc : MI) (sd : MD) : Con g SHc (d + 15) 119 [.ref 0, .int s, .int rt, .int a, .int k] (ovX I sc) (ovD D sd) (Sc (some (.int (sel3 (wdOk ms s rt a k) (decide (3000 ≤ I 1 0)) false (-2) (-4) 0 (nI (wdX I n m tk fd b s rt a k).1.1)))) (sel3 (wdOk ms s rt a k) (decide (3000 ≤ I 1 0)) false I I I (trX (wnX (fiX I (wdX I n m tk fd b s rt a k).2) (wdX I n m tk fd b s rt a k).1) (bsT (0, I 49) (bdX I s) k.toNatClampNeg))) D) := by
  refine Con.mk (LV := v_X_windows) k_X_windows (Nat.le_of_ble_eq_true rfl) (fun K hK => ?_)
  refine hK (0, 79, o_X_windows_0) (List.mem_of_getElem? (i := 0) rfl) _ _ _ _ ?_
  have no : wdOk ms s rt a k = false → Sc (some (.int (sel3 (wdOk ms s rt a k) (decide (3000 ≤ I 1 0)) false (-2) (-4) 0 (nI (wdX I n m tk fd b s rt a k).1.1)))) (sel3 (wdOk ms s rt a k) (decide (3000 ≤ I 1 0)) false I I I (trX (wnX (fiX I (wdX I n m tk fd b s rt a k).2) (wdX I n m tk fd b s rt a k).1) (bsT (0, I 49) (bdX I s) k.toNatClampNeg))) D (some (.int (-2))) (ovX I sc) (ovD D sd) := by
    intro h
    rw [h]
    exact sc_of
  refine call_eq (c_X_isShip g (d + 14) (ovX I sc) (ovD D sd) s) ?_
  have hix : (decide (0 ≤ s) && decide (s < ovX I sc 6 9)) = ix s (nI ms) := by rw [show ovX I sc 6 9 = nI ms from hS]; rfl
  rw [hix]
  refine And.intro (fun c1 => ?_) (fun c1 => ?_)
  · exact no (by unfold wdOk; rw [bI_0.mp c1]; rfl)
  refine call_eq (c_X_isRoute g (d + 14) (ovX I sc) (ovD D sd) rt) ?_
  refine And.intro (fun c2 => ?_) (fun c2 => ?_)
  · exact no (by unfold wdOk; rw [bI_0.mp c2, Bool.and_false]; rfl)
  refine call_eq (c_X_isWithin g (d + 14) (ovX I sc) (ovD D sd) k 1 120) ?_
  refine And.intro (fun c3 => ?_) (fun c3 => ?_)
  · exact no (by unfold wdOk; rw [bI_0.mp c3, Bool.and_false]; rfl)
  refine call_eq (c_X_isMinute g (d + 14) (ovX I sc) (ovD D sd) a) ?_
  refine And.intro (fun c4 => ?_) (fun c4 => ?_)
  · exact no (by unfold wdOk; rw [bI_0.mp c4, Bool.and_false]; rfl)
  refine call_eq (c_X_isMinute g (d + 14) (ovX I sc) (ovD D sd) (a + k - 1)) ?_
  refine And.intro (fun c5 => ?_) (fun c5 => ?_)
  · have hok : wdOk ms s rt a k = true := by unfold wdOk; rw [bI_n0.mp c1, bI_n0.mp c2, bI_n0.mp c3, bI_n0.mp c4, bI_n0.mp c5]; rfl
    rw [hok] at hK ⊢
    clear no
    obtain ⟨h1, r, a, k, rfl, rfl, rfl, hr, hk1, hk, hak⟩ := wdOk_e hok
    have eW : wdX I n m tk fd b s (nI r) (nI a) (nI k) = wfX I n m tk fd b r s (I 0 11) a k := by
      unfold wdX
      rw [nI_clamp (show r < 2 ^ 31 by omega), nI_clamp (show a < 2 ^ 31 by omega), nI_clamp (show k < 2 ^ 31 by omega)]
    rw [eW, nI_clamp (show k < 2 ^ 31 by omega)] at hK ⊢
    refine call_eq (c_X_areSpent g (d + 14) (ovX I sc) (ovD D sd)) ?_
    refine And.intro (fun c6 => ?_) (fun c6 => ?_)
    · have hfu := decide_eq_false (show ¬ 3000 ≤ I 1 0 from of_decide_eq_false (bI_0.mp c6))
      rw [hfu] at hK ⊢
      refine call_eq (c_X_wbegin g (d + 14) _ (ovD D sd)) ?_
      have loop : ∀ q i sc sd, i + q = k → K 79 [(0, .ref 0), (1, .int s), (2, .int (nI r)), (3, .int (nI a)), (4, .int (nI k)), (5, .int (nI (a + i)))] [] (ovX (trX (wnX (fiX I (wfX I n m tk fd b r s (I 0 11) a i).2) (wfX I n m tk fd b r s (I 0 11) a i).1) (bsT (0, I 49) (bdX I s) i)) sc) (ovD D sd) := by
        intro q
        induction q with
        | zero =>
          intro i sc sd hi
          have hi : i = k := by omega
          subst hi
          refine hK (79, 126, o_X_windows_1) (List.mem_of_getElem? (i := 1) rfl) _ _ _ _ ?_
          refine And.intro (fun c => ?_) (fun c => ?_)
          · exact sc_of
          · rw [nI_add] at c
            exact absurd (nI_le (Nat.le_refl _) (by omega)) c
        | succ q ih =>
          intro i sc sd hi
          have hw : (wfX I n m tk fd b r s (I 0 11) a i).1.1 ≤ 20 ∧ ((wfX I n m tk fd b r s (I 0 11) a i).1.2.2.2.2.2 = true → 0 < (wfX I n m tk fd b r s (I 0 11) a i).1.1) := wfF_ok (Nat.zero_le _) (fun z => absurd (show false = true from z) (by decide)) i
          have nxt : wfX I n m tk fd b r s (I 0 11) a (i + 1) = (wkF (wfX I n m tk fd b r s (I 0 11) a i).1 (nI (a + i)) (mnX I n m tk fd b r s (I 0 11) a i), telF (mnX I n m tk fd b r s (I 0 11) a i) (wfX I n m tk fd b r s (I 0 11) a i).2) := rfl
          have nxtT : bsT (0, I 49) (bdX I s) (i + 1) = begsT (bsT (0, I 49) (bdX I s) i) (bdX I s) := rfl
          have go := fun sc sd => ih (i + 1) sc sd (by omega)
          rw [nxt, nxtT] at go
          have hTl := bsT_le (T := (0, I 49)) (Nat.zero_le _) (bdX I s) i
          generalize wfX I n m tk fd b r s (I 0 11) a i = WF at go hw ⊢
          generalize bsT (0, I 49) (bdX I s) i = T at go hTl ⊢
          have hC : Con g SHc (d + 14) 117 [.ref 8, .int s, .int (nI r), .int (nI (a + i)), .int (I 0 11)] (ovX (trX (wnX (fiX I WF.2) WF.1) T) sc) (ovD D sd) (fun o J E => ∃ sc' sd', o = some (.int (mnX I n m tk fd b r s (I 0 11) a i)) ∧ J = ovX (tellA (mnX I n m tk fd b r s (I 0 11) a i) (trX (wnX (fiX I WF.2) WF.1) (begsT T (bdX I s)))) sc' ∧ E = ovD D sd') := by
            refine con_mono (c_X_tryMinute g d (wnX (fiX I WF.2) WF.1) D hB hR hW hms hP s h1 r (a + i) hr (by omega) (I 0 11) T hTl sc sd) ?_
            rintro o J E ⟨sc', sd', rfl, rfl, rfl, -⟩
            exact ⟨sc', sd', rfl, rfl, rfl⟩
          generalize mnX I n m tk fd b r s (I 0 11) a i = A at go hC
          refine hK (79, 126, o_X_windows_1) (List.mem_of_getElem? (i := 1) rfl) _ _ _ _ ?_
          refine And.intro (fun c => ?_) (fun c => ?_)
          · rw [nI_add] at c
            exact absurd c (nI_ge (by omega) (by omega))
          refine call_of hC ?_
          rintro o J E ⟨sc', sd', rfl, rfl, rfl⟩
          rw [tel_nf]
          refine call_eq (c_X_take g (d + 14) (fiX I (telF A WF.2)) (ovD D sd') WF.1 hw.1 hw.2 (nI (a + i)) A (begsT T (bdX I s)) sc') ?_
          have go := go sc' sd'
          rw [show a + (i + 1) = a + i + 1 from rfl, nI_succ] at go
          exact go
      have go := loop k 0 sc sd (by omega)
      rw [show wfX I n m tk fd b r s (I 0 11) a 0 = (W0X I, F0X I) from rfl, show bsT (0, I 49) (bdX I s) 0 = (0, I 49) from rfl, nfX_0] at go
      rw [← ov_n2 _ _ _ _ _ (by rfl), ← ov_n2 _ _ _ _ _ (by rfl), ← ov_n2 _ _ _ _ _ (by rfl), ← ov_n2 _ _ _ _ _ (by rfl), ← ov_n2 _ _ _ _ _ (by rfl)] at go
      exact go
    · rw [decide_eq_true (show 3000 ≤ I 1 0 from of_decide_eq_true (bI_n0.mp c6))]
      exact sc_of
  · exact no (by unfold wdOk; rw [bI_0.mp c5, Bool.and_false])
end S72
