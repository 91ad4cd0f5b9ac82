/-! WATERS -/
def hiB (be he bh : UInt64) : Bool := !decide (Op.cmpValue (FP.dcmp he be) .l ≤ 0) && !decide (Op.cmpValue (FP.dcmp he bh) .l < 0)
def loB (be he bh : UInt64) : Bool := !decide (0 ≤ Op.cmpValue (FP.dcmp he be) .g) && !decide (0 < Op.cmpValue (FP.dcmp he bh) .g)
def upB (hi : Bool) (he ne : UInt64) : Bool := match hi with
  | true => !decide (Op.cmpValue (FP.dcmp ne he) .l ≤ 0)
  | false => !decide (0 ≤ Op.cmpValue (FP.dcmp ne he) .g)
def hvN (p : Nat → Bool) : Nat → Nat → Nat → Nat
  | 0, _, top => top
  | f + 1, lo, top => if top - lo ≤ 1 then top else if p ((lo + top) / 2) = true then hvN p f ((lo + top) / 2) top else hvN p f lo ((lo + top) / 2)
theorem hvN_le (p : Nat → Bool) : ∀ f lo top, lo ≤ top → lo ≤ hvN p f lo top ∧ hvN p f lo top ≤ top
  | 0, lo, top, h => ⟨h, Nat.le_refl _⟩
  | f + 1, lo, top, h => by
    unfold hvN
    split
    · exact ⟨h, Nat.le_refl _⟩
    · split
      · have := hvN_le p f ((lo + top) / 2) top (by omega)
        omega
      · have := hvN_le p f lo ((lo + top) / 2) (by omega)
        omega
abbrev Wt : Type := Nat × (Nat → Int32) × (Nat → Int32) × (Nat → UInt64)
def wtT (s : Nat) (W : Wt) (m : Int32) (hi : Bool) (v : UInt64) : Wt := (W.1 + 1, up1 W.2.1 (40 * s + W.1) m, up1 W.2.2.1 (40 * s + W.1) (bI hi), up1 W.2.2.2 (40 * s + W.1) v)
def wtS (hh : Nat → UInt64) (mv : Nat → Bool → Int32) (hg : Int32 → UInt64) (s : Nat) (W0 : Wt) : Nat → Wt
  | 0 => W0
  | i + 1 => if (wtS hh mv hg s W0 i).1 < 40 ∧ (hiB (hh i) (hh (i + 1)) (hh (i + 2)) || loB (hh i) (hh (i + 1)) (hh (i + 2))) = true then wtT s (wtS hh mv hg s W0 i) (mv i (hiB (hh i) (hh (i + 1)) (hh (i + 2)))) (hiB (hh i) (hh (i + 1)) (hh (i + 2))) (hg (mv i (hiB (hh i) (hh (i + 1)) (hh (i + 2))))) else wtS hh mv hg s W0 i
theorem wtS_le (hh : Nat → UInt64) (mv : Nat → Bool → Int32) (hg : Int32 → UInt64) (s : Nat) (W0 : Wt) (h0 : W0.1 ≤ 40) : ∀ i, (wtS hh mv hg s W0 i).1 ≤ 40
  | 0 => h0
  | i + 1 => by
    unfold wtS
    split
    next c => exact c.1
    next => exact wtS_le hh mv hg s W0 h0 i
theorem wtS_full {hh : Nat → UInt64} {mv : Nat → Bool → Int32} {hg : Int32 → UInt64} {s : Nat} {W0 : Wt} {i : Nat} (h : 40 ≤ (wtS hh mv hg s W0 i).1) : ∀ k, wtS hh mv hg s W0 (i + k) = wtS hh mv hg s W0 i
  | 0 => rfl
  | k + 1 => by
    have ih := wtS_full h k
    show (if (wtS hh mv hg s W0 (i + k)).1 < 40 ∧ _ then _ else wtS hh mv hg s W0 (i + k)) = _
    rw [if_neg (fun c => by rw [ih] at c; omega), ih]
/-- what holds of each WATER that is kept -/
theorem wtS_inv {P : Int32 → Int32 → UInt64 → Prop} {hh : Nat → UInt64} {mv : Nat → Bool → Int32} {hg : Int32 → UInt64} {s : Nat} {W0 : Wt} (h0 : W0.1 = 0) {k : Nat} (hP : ∀ i b, i < k → P (mv i b) (bI b) (hg (mv i b))) : ∀ i, i ≤ k → ∀ j, j < (wtS hh mv hg s W0 i).1 → P ((wtS hh mv hg s W0 i).2.1 (40 * s + j)) ((wtS hh mv hg s W0 i).2.2.1 (40 * s + j)) ((wtS hh mv hg s W0 i).2.2.2 (40 * s + j))
  | 0, _, j, h => absurd h (by show ¬ j < W0.1; omega)
  | i + 1, hi, j, h => by
    unfold wtS at h ⊢
    split
    next c =>
      rw [if_pos c] at h
      have h1 : j < (wtS hh mv hg s W0 i).1 + 1 := h
      by_cases hj : j = (wtS hh mv hg s W0 i).1
      · subst hj
        show P (up1 _ _ _ _) (up1 _ _ _ _) (up1 _ _ _ _)
        unfold up1
        rw [if_pos rfl, if_pos rfl, if_pos rfl]
        exact hP i _ (by omega)
      · show P (up1 _ _ _ _) (up1 _ _ _ _) (up1 _ _ _ _)
        unfold up1
        rw [if_neg (by omega), if_neg (by omega), if_neg (by omega)]
        exact wtS_inv h0 hP i (by omega) j (by omega)
    next c =>
      rw [if_neg c] at h
      exact wtS_inv h0 hP i (by omega) j h
/-- and what is not of this STATION stays -/
theorem wtS_off {hh : Nat → UInt64} {mv : Nat → Bool → Int32} {hg : Int32 → UInt64} {s : Nat} {W0 : Wt} {q : Nat} (h0 : W0.1 ≤ 40) (hq : q < 40 * s ∨ 40 * s + 40 ≤ q) : ∀ i, (wtS hh mv hg s W0 i).2.1 q = W0.2.1 q ∧ (wtS hh mv hg s W0 i).2.2.1 q = W0.2.2.1 q ∧ (wtS hh mv hg s W0 i).2.2.2 q = W0.2.2.2 q
  | 0 => ⟨rfl, rfl, rfl⟩
  | i + 1 => by
    have ih := wtS_off (hh := hh) (mv := mv) (hg := hg) h0 hq i
    unfold wtS
    split
    next c =>
      have : ¬ q = 40 * s + (wtS hh mv hg s W0 i).1 := by omega
      show up1 _ _ _ q = _ ∧ up1 _ _ _ q = _ ∧ up1 _ _ _ q = _
      unfold up1
      rw [if_neg this, if_neg this, if_neg this]
      exact ih
    next => exact ih
def wsG (hg : Int32 → UInt64) (s f sp k : Nat) (W0 : Wt) : Nat → Wt := wtS (fun i => hg (nI (f + 60 * sp * i))) (fun i hi => nI (hvN (fun m => upB hi (hg (nI m)) (hg (nI (m + 1)))) 32 (f + 60 * sp * i) (f + 60 * sp * i + 120 * sp))) hg s W0
theorem tm_X (f i sp : Nat) : nI f + nI i * 60 * nI sp = nI (f + 60 * sp * i) := by
  rw [show (60 : Int32) = nI 60 from rfl, pk_mul, pk_mul, nI_add]
  congr 2
  rw [Nat.mul_comm i 60, Nat.mul_right_comm]
theorem tm_M (f i sp : Nat) : nI f + nI i * (60 * nI sp) = nI (f + 60 * sp * i) := by
  rw [show (60 : Int32) = nI 60 from rfl, pk_mul, pk_mul, nI_add]
  congr 2
  exact Nat.mul_comm _ _
section S50
variable (g : Gp) (d : Nat) (I : MI) (D : MD)
set_option maxHeartbeats 1000000 in
theorem c_X_halve (n : Nat) (hn : n ≤ 60) (hI : I 2 9 = nI n) (hw : ∀ i, i < n → ∃ w, w ≤ 8 ∧ I 20 i = nI w) (sp : Nat) (hst : I 5 7 = nI sp) (s w : Int32) (f : Nat) (hf : f + 120 * sp < 2592000) (hi : Bool) : Con g SHc (d + 2) 58 [.ref 5, .int s, .int (nI f), .int (bI hi), .int w] I D (EqP (some (.int (nI (hvN (fun m => upB hi (hgtX I n s (nI m) w) (hgtX I n s (nI (m + 1)) w)) 32 f (f + 120 * sp))))) I D) := by
  refine Con.mk (LV := v_Waters_halve) k_Waters_halve (Nat.le_of_ble_eq_true rfl) (fun K hK => ?_)
  obtain ⟨p, hp⟩ : ∃ p, p = (fun m => upB hi (hgtX I n s (nI m) w) (hgtX I n s (nI (m + 1)) w)) := ⟨_, rfl⟩
  rw [← hp] at hK
  obtain ⟨V, hV⟩ : ∃ V, V = hvN p 32 f (f + 120 * sp) := ⟨_, rfl⟩
  rw [← hV] at hK
  have loop : ∀ r i lo top, i + r = 32 → lo ≤ top → top < 2592000 → hvN p r lo top = V → K 17 [(0, .ref 5), (1, .int s), (3, .int (bI hi)), (4, .int w), (5, .int (nI lo)), (6, .int (nI top)), (7, .int (nI i))] [] I D := by
    intro r
    induction r with
    | zero =>
      intro i lo top hir h1 h2 hv
      refine hK (17, 115, o_Waters_halve_1) (List.mem_of_getElem? (i := 1) rfl) _ _ _ _ ?_
      refine And.intro (fun c => ?_) (fun c => ?_)
      · exact And.intro (by rw [← hv]; rfl) (And.intro rfl rfl)
      · exact absurd (show nI 32 ≤ nI i from nI_le (by omega) (by omega)) c
    | succ r ih =>
      intro i lo top hir h1 h2 hv
      have em : (nI lo + nI top) / 2 = nI ((lo + top) / 2) := by
        rw [nI_add]
        exact pk_div (d := 2) (by omega) (by decide) (by decide)
      have em1 : (nI lo + nI top) / 2 + 1 = nI ((lo + top) / 2 + 1) := by rw [em, nI_1]
      have hc1 : Con g SHc (d + 1) 19 [.ref 2, .int s, .int ((nI lo + nI top) / 2), .int w] I D (EqP (some (.double (hgtX I n s (nI ((lo + top) / 2)) w))) I D) := by
        rw [em]
        exact c_X_heightAt g d I D s _ w n hn hI hw
      have hc2 : Con g SHc (d + 1) 19 [.ref 2, .int s, .int ((nI lo + nI top) / 2 + 1), .int w] I D (EqP (some (.double (hgtX I n s (nI ((lo + top) / 2 + 1)) w))) I D) := by
        rw [em1]
        exact c_X_heightAt g d I D s _ w n hn hI hw
      unfold hvN at hv
      refine hK (17, 115, o_Waters_halve_1) (List.mem_of_getElem? (i := 1) rfl) _ _ _ _ ?_
      refine And.intro (fun c => ?_) (fun c => ?_)
      · exact absurd (show nI 32 ≤ nI i from c) (nI_ge (by omega) (by omega))
      refine And.intro (fun c1 => ?_) (fun c1 => ?_)
      · have c1 : nI top - nI lo ≤ nI 1 := c1
        rw [nI_sub h1, nI_leI (by omega) (by omega)] at c1
        rw [if_pos c1] at hv
        exact And.intro (by rw [hv]) (And.intro rfl rfl)
      have c1 : ¬ nI top - nI lo ≤ nI 1 := c1
      rw [nI_sub h1, nI_leI (by omega) (by omega)] at c1
      rw [if_neg c1] at hv
      refine And.intro (by decide) ?_
      refine call_eq (hc1) ?_
      refine call_eq (hc2) ?_
      have goU : p ((lo + top) / 2) = true → K 17 [(0, .ref 5), (1, .int s), (3, .int (bI hi)), (4, .int w), (5, .int ((nI lo + nI top) / 2)), (6, .int (nI top)), (7, .int (nI i + 1))] [] I D := by
        intro hq
        rw [if_pos hq] at hv
        have go := ih (i + 1) ((lo + top) / 2) top (by omega) (by omega) h2 hv
        rw [nI_succ, ← em] at go
        exact go
      have goD : p ((lo + top) / 2) = false → K 17 [(0, .ref 5), (1, .int s), (3, .int (bI hi)), (4, .int w), (5, .int (nI lo)), (6, .int ((nI lo + nI top) / 2)), (7, .int (nI i + 1))] [] I D := by
        intro hq
        rw [if_neg (by rw [hq]; decide)] at hv
        have go := ih (i + 1) lo ((lo + top) / 2) (by omega) (by omega) (by omega) hv
        rw [nI_succ, ← em] at go
        exact go
      cases hi with
      | true =>
        refine And.intro (fun z => absurd z (by decide)) (fun _ => ?_)
        refine And.intro (fun c2 => ?_) (fun c2 => ?_)
        · refine goD ?_
          rw [hp]
          show (!decide _) = false
          rw [decide_eq_true c2]
          rfl
        · refine goU ?_
          rw [hp]
          show (!decide _) = true
          rw [decide_eq_false c2]
          rfl
      | false =>
        refine And.intro (fun _ => ?_) (fun z => absurd rfl z)
        refine And.intro (fun c2 => ?_) (fun c2 => ?_)
        · refine goD ?_
          rw [hp]
          show (!decide _) = false
          rw [decide_eq_true c2]
          rfl
        · refine goU ?_
          rw [hp]
          show (!decide _) = true
          rw [decide_eq_false c2]
          rfl
  refine hK (0, 17, o_Waters_halve_0) (List.mem_of_getElem? (i := 0) rfl) _ _ _ _ ?_
  have go := loop 32 0 f (f + 120 * sp) (by omega) (by omega) (by omega) hV.symm
  rw [← nI_add, ← pk_mul, ← hst] at go
  exact go
theorem bnar (b : Bool) : vp_nar .boolean (bI b) = bI b := by cases b <;> rfl
theorem c_X_keep (n : Nat) (hn : n ≤ 60) (hI : I 2 9 = nI n) (hw : ∀ i, i < n → ∃ w, w ≤ 8 ∧ I 20 i = nI w) (s c : Nat) (hs : s < 12) (hc : c < 40) (hS : I 36 s = nI c) (t w : Int32) (hi : Bool) : Con g SHc (d + 2) 59 [.ref 5, .int (nI s), .int t, .int (bI hi), .int w] I D (EqP none (up2 (up2 (up2 I 37 (40 * s + c) t) 38 (40 * s + c) (bI hi)) 36 s (nI (c + 1))) (up2 D 39 (40 * s + c) (hgtX I n (nI s) t w))) := by
  refine Con.mk (LV := v_Waters_keep) k_Waters_keep (Nat.le_of_ble_eq_true rfl) (fun K hK => ?_)
  refine hK (0, 58, o_Waters_keep_0) (List.mem_of_getElem? (i := 0) rfl) _ _ _ _ ?_
  have hsc : (nI s).toNatClampNeg = s := nI_clamp (by omega)
  have e1 : nI s * 40 + I 36 (nI s).toNatClampNeg = nI (40 * s + c) := by
    rw [hsc, hS, show (40 : Int32) = nI 40 from rfl, pk_mul, nI_add, Nat.mul_comm s 40]
  have ec : (nI (40 * s + c)).toNatClampNeg = 40 * s + c := nI_clamp (by omega)
  have hin : inn (nI s * 40 + I 36 (nI s).toNatClampNeg) 480 := by rw [e1]; exact inn_nI (by omega) (by decide)
  refine And.intro (inn_nI hs (by decide)) ?_
  refine And.intro (hin) ?_
  refine And.intro (hin) ?_
  rw [e1, ec, bnar]
  have hc1 : Con g SHc (d + 1) 19 [.ref 2, .int (nI s), .int t, .int w] (up2 (up2 I 37 (40 * s + c) t) 38 (40 * s + c) (bI hi)) D (EqP (some (.double (hgtX I n (nI s) t w))) (up2 (up2 I 37 (40 * s + c) t) 38 (40 * s + c) (bI hi)) D) := c_X_heightAt g d _ D (nI s) t w n hn hI hw
  refine call_eq (hc1) ?_
  refine And.intro (by rw [← e1]; exact hin) ?_
  refine And.intro (inn_nI hs (by decide)) ?_
  refine And.intro (inn_nI hs (by decide)) ?_
  refine And.intro rfl (And.intro ?_ ?_)
  · rw [hsc]
    show up2 _ _ _ (I 36 s + 1) = _
    rw [hS, nI_1]
  · rw [ec]
def fnX (I : MI) (s : Nat) (W : Wt) : MI := up2 (upc (upc I 37 W.2.1) 38 W.2.2.1) 36 s (nI W.1)
def fnD (D : MD) (W : Wt) : MD := upc D 39 W.2.2.2
theorem fnX_t (s : Nat) (W : Wt) (m : Int32) (hi : Bool) (v : UInt64) : up2 (up2 (up2 (fnX I s W) 37 (40 * s + W.1) m) 38 (40 * s + W.1) (bI hi)) 36 s (nI (W.1 + 1)) = fnX I s (wtT s W m hi v) := by
  unfold fnX wtT
  funext a b
  simp only [up2_at2, upc_at, up1]
  by_cases h1 : a = 37
  · subst h1; simp
  · by_cases h2 : a = 38
    · subst h2; simp
    · by_cases h3 : a = 36
      · subst h3
        by_cases h : b = s <;> simp [h]
      · simp [h1, h2, h3]
theorem fnD_t (s : Nat) (W : Wt) (m : Int32) (hi : Bool) (v : UInt64) : up2 (fnD D W) 39 (40 * s + W.1) v = fnD D (wtT s W m hi v) := by
  unfold fnD wtT
  exact upc_up2 _ _ _ _ _
theorem fnX_0 (s : Nat) (G : Nat → UInt64) : up2 I 36 s 0 = fnX I s (0, I 37, I 38, G) := by
  unfold fnX
  rw [upc_self, upc_self]
  rfl
theorem fnD_0 (a : Nat) (G H : Nat → Int32) : fnD D (a, G, H, D 39) = D := by
  unfold fnD
  exact upc_self _ _
end S50
