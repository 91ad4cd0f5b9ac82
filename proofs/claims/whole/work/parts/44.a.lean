section S44
variable (g : Gp) (d : Nat) (I : MI) (D : MD)
/-- the component's scratch of a SURGE -/
def gsX (I : MI) (n k : Nat) (la : Int32) : MI := up2 (up2 (up2 I 3 12 (nI n)) 3 13 (nI k)) 3 14 la
theorem gsX_0 : up2 (up2 I 3 12 0) 3 13 0 = gsX I 0 0 (I 3 14) := by
  unfold gsX
  funext a b
  simp only [up2_at2]
  by_cases h : a = 3 ∧ b = 14
  · rw [if_pos h, if_neg (by omega), if_neg (by omega), h.1, h.2]
  · rw [if_neg h]
    rfl
theorem gsX_n (n k m : Nat) (la : Int32) : up2 (gsX I n k la) 3 12 (nI m) = gsX I m k la := by
  unfold gsX
  funext a b
  simp only [up2_at2]
  by_cases h : a = 3
  · by_cases h1 : b = 12
    · simp [h, h1]
    · simp [h, h1]
  · simp [h]
theorem gsX_k (n k m : Nat) (la : Int32) : up2 (gsX I n k la) 3 13 (nI m) = gsX I n m la := by
  unfold gsX
  funext a b
  simp only [up2_at2]
  by_cases h : a = 3
  · by_cases h1 : b = 13
    · simp [h, h1]
    · simp [h, h1]
  · simp [h]
theorem gsX_la (n k : Nat) (la lb : Int32) : up2 (gsX I n k la) 3 14 lb = gsX I n k lb := by
  unfold gsX
  rw [up2_up2]
theorem nI_sub {a b : Nat} (h : b ≤ a) : nI a - nI b = nI (a - b) := by
  have : nI a = nI (a - b) + nI b := by rw [nI_add, Nat.sub_add_cancel h]
  rw [this]
  exact Int32.add_sub_cancel _ _
theorem nI_nlx {a b : Nat} (h : a < b) (hb : b < 2 ^ 31) : ¬ nI b ≤ nI a := by
  intro c
  rw [i32_le, nI_toInt hb, nI_toInt (by omega)] at c
  omega
abbrev moX (I : MI) (j i : Nat) : Int32 := I 23 j + nI i * I 24 j
abbrev shX' (I : MI) (j i : Nat) : Int32 := I 27 (120 * j + i)
abbrev noX (I : MI) (n j : Nat) (w : Int32) (m : Int32) : Bool := decide (sfX I (I 22 j) m w n = -1)
abbrev hhX (I : MI) (n j : Nat) (w : Int32) (m : Int32) : UInt64 := hgtX I n (I 22 j) m w
def enX (I : MI) (j z : Nat) (t : Int32) : Nat := enF (moX I j) t z 0
/-- what the component gathers -/
def sgX (I : MI) (D : MD) (n j z tk : Nat) (t w : Int32) : Srg := sgF (moX I j) (shX' I j) (noX I n j w) (hhX I n j w) (D 29) (I 3 14) (enX I j z t - tk) (enX I j z t - (enX I j z t - tk))
def gaI (I : MI) (S : Srg) : MI := gsX I S.n S.k S.la
def gaD (D : MD) (S : Srg) : MD := upc D 29 S.G
theorem of_fb {n : Nat} (hn : n ≤ 60) (hw : ∀ i, i < n → ∃ w, w ≤ 8 ∧ I 20 i = nI w) (v s m w : Int32) (h : ¬ sfX I s m w n = -1) : fb 301 (FP.dsub (FP.ddiv (FP.i2d v) 4636737291354636288) (hgtX I n s m w)) :=
  fb_sub (E := 300) (by omega) (fb_mono (by omega) (mn_fb v)) (hgtX_fb I n hn hw s m w h)
set_option maxHeartbeats 2000000 in
theorem c_X_gather (n j z tk : Nat) (hn : n ≤ 60) (hI : I 2 9 = nI n) (hw : ∀ i, i < n → ∃ w, w ≤ 8 ∧ I 20 i = nI w) (hj : j < 10) (hz : z ≤ 120) (hS : I 26 j = nI z) (h9 : tk ≤ 9) (htk : I 3 10 = nI tk) (t w : Int32) : Con g SHc (d + 2) 37 [.ref 3, .int (nI j), .int t, .int w] I D (EqP (some (.int (nI (sgX I D n j z tk t w).n))) (gaI I (sgX I D n j z tk t w)) (gaD D (sgX I D n j z tk t w))) := by
  refine Con.mk (LV := v_Gauges_gather) k_Gauges_gather (Nat.le_of_ble_eq_true rfl) (fun K hK => ?_)
  have hjc : (nI j).toNatClampNeg = j := nI_clamp (by omega)
  have hj10 : inn (nI j) 10 := inn_nI hj (by decide)
  obtain ⟨e, hE⟩ : ∃ e, enF (moX I j) t z 0 = e := ⟨_, rfl⟩
  have he120 : e ≤ 120 := by
    rw [← hE]
    have := enF_le (moX I j) t z 0
    omega
  have eS : sgX I D n j z tk t w = sgF (moX I j) (shX' I j) (noX I n j w) (hhX I n j w) (D 29) (I 3 14) (e - tk) (e - (e - tk)) := by
    unfold sgX enX
    rw [hE]
  rw [eS] at hK
  have loop2 : ∀ r q, e - tk + q + r = e → K 63 [(0, .ref 3), (1, .int (nI j)), (3, .int w), (4, .int (nI e)), (5, .int (nI (e - tk + q)))] [] (gaI I (sgF (moX I j) (shX' I j) (noX I n j w) (hhX I n j w) (D 29) (I 3 14) (e - tk) q)) (gaD D (sgF (moX I j) (shX' I j) (noX I n j w) (hhX I n j w) (D 29) (I 3 14) (e - tk) q)) := by
    intro r
    induction r with
    | zero =>
      intro q hq
      have hq1 : q = e - (e - tk) := by omega
      subst hq1
      have hq2 : e - tk + (e - (e - tk)) = e := by omega
      rw [hq2]
      refine hK (63, 179, o_Gauges_gather_2) (List.mem_of_getElem? (i := 2) rfl) _ _ _ _ ?_
      refine And.intro (fun c => ?_) (fun c => ?_)
      · exact And.intro rfl (And.intro rfl rfl)
      · exact absurd (nI_le (Nat.le_refl _) (by omega)) c
    | succ r ih =>
      intro q hq
      have go := ih (q + 1) (by omega)
      have hnk := sgF_n (moX I j) (shX' I j) (noX I n j w) (hhX I n j w) (D 29) (I 3 14) (e - tk) q
      rw [sgF] at go
      obtain ⟨S, hSS⟩ : ∃ S, sgF (moX I j) (shX' I j) (noX I n j w) (hhX I n j w) (D 29) (I 3 14) (e - tk) q = S := ⟨_, rfl⟩
      rw [hSS] at hnk go ⊢
      obtain ⟨i, hi⟩ : ∃ i, e - tk + q = i := ⟨_, rfl⟩
      rw [← Nat.add_assoc] at go
      rw [hi] at go hq ⊢
      rw [nI_succ] at go
      have e1 : nI j * 120 + nI i = nI (120 * j + i) := by rw [show (120 : Int32) = nI 120 from rfl, pk_mul, nI_add, Nat.mul_comm]
      have ec : (nI (120 * j + i)).toNatClampNeg = 120 * j + i := nI_clamp (by omega)
      have k1 : ∀ z : Int32, z = nI S.k → z + 1 = nI (S.k + 1) := fun z h => by rw [h]; exact nI_1 _
      refine hK (63, 179, o_Gauges_gather_2) (List.mem_of_getElem? (i := 2) rfl) _ _ _ _ ?_
      refine And.intro (fun c => ?_) (fun c => ?_)
      · exact absurd c (nI_ge (by omega) (by omega))
      refine call_eq (c_X_momentOf g (d + 1) (gaI I S) (gaD D S) j hj (nI i)) ?_
      refine And.intro (by rw [e1]; exact inn_nI (by omega) (by decide)) ?_
      refine And.intro (fun c1 => ?_) (fun c1 => ?_)
      · have c1 : gaI I S 27 (nI j * 120 + nI i).toNatClampNeg = -32768 := c1
        rw [e1, ec] at c1
        rw [if_pos (by rw [decide_eq_true (show shX' I j i = -32768 from c1)]; rfl)] at go
        refine (show K 63 _ [] (up2 (gaI I S) 3 13 (gaI I S 3 13 + 1)) (gaD D S) from ?_)
        rw [k1 (gaI I S 3 13) rfl]
        rw [show up2 (gaI I S) 3 13 (nI (S.k + 1)) = _ from gsX_k I _ _ _ _]
        exact go
      have c1 : ¬ gaI I S 27 (nI j * 120 + nI i).toNatClampNeg = -32768 := c1
      rw [e1, ec] at c1
      refine And.intro (hj10) ?_
      rw [hjc]
      refine call_eq (c_X_inForce g (d + 1) (gaI I S) (gaD D S) _ _ w n hn hI) ?_
      refine And.intro (fun c2 => ?_) (fun c2 => ?_)
      · have c2 : ¬ sfX I (I 22 j) (moX I j i) w n = -1 := c2
        rw [if_neg (by rw [decide_eq_false (show ¬ shX' I j i = -32768 from c1), show noX I n j w (moX I j i) = false from decide_eq_false c2]; decide)] at go
        refine And.intro (fb_n (mn_fb _)) ?_
        refine And.intro (hj10) ?_
        rw [hjc]
        refine call_eq (c_X_heightAt g d (gaI I S) (gaD D S) _ _ w n hn hI hw) ?_
        refine And.intro (fb_n (of_fb I hn hw _ _ _ w c2)) ?_
        rw [e1, ec]
        refine call_eq (c_X_keepBySize g (d + 1) (gaI I S) (gaD D S) S.n (by omega) rfl _) ?_
        refine (show K 63 _ [] (up2 (up2 (gaI I S) 3 12 (nI (S.n + 1))) 3 14 _) (upc (gaD D S) 29 _) from ?_)
        rw [show up2 (gaI I S) 3 12 (nI (S.n + 1)) = gsX I (S.n + 1) S.k S.la from gsX_n I _ _ _ _, gsX_la]
        rw [show ∀ G, upc (gaD D S) 29 G = upc D 29 G from fun G => upc_upc _ _ _ _]
        exact go
      · have c2 : sfX I (I 22 j) (moX I j i) w n = -1 := c2
        rw [if_pos (by rw [show noX I n j w (moX I j i) = true from decide_eq_true c2, Bool.or_true])] at go
        refine (show K 63 _ [] (up2 (gaI I S) 3 13 (gaI I S 3 13 + 1)) (gaD D S) from ?_)
        rw [k1 (gaI I S 3 13) rfl]
        rw [show up2 (gaI I S) 3 13 (nI (S.k + 1)) = _ from gsX_k I _ _ _ _]
        exact go
  have start : K 63 [(0, .ref 3), (1, .int (nI j)), (3, .int w), (4, .int (nI e)), (5, .int (nI (e - tk)))] [] (up2 (up2 I 3 12 0) 3 13 0) D := by
    have go := loop2 (e - (e - tk)) 0 (by omega)
    rw [Nat.add_zero] at go
    rw [gsX_0]
    have eD : gaD D (sgF (moX I j) (shX' I j) (noX I n j w) (hhX I n j w) (D 29) (I 3 14) (e - tk) 0) = D := upc_self D _
    rw [eD] at go
    exact go
  have exit : ∀ i, i = e → (nI i ≤ I 3 10 → K 63 [(0, .ref 3), (1, .int (nI j)), (3, .int w), (4, .int (nI i)), (5, .int 0)] [] (up2 (up2 I 3 12 0) 3 13 0) D) ∧ (¬ nI i ≤ I 3 10 → K 63 [(0, .ref 3), (1, .int (nI j)), (3, .int w), (4, .int (nI i)), (5, .int (nI i - I 3 10))] [] (up2 (up2 I 3 12 0) 3 13 0) D) := by
    intro i hi
    subst hi
    rw [htk]
    refine And.intro (fun c => ?_) (fun c => ?_)
    · have c6 : i - tk = 0 := by
        rcases Nat.lt_or_ge tk i with h | h
        · exact absurd c (nI_nlx h (by omega))
        · omega
      rw [c6] at start
      exact start
    · have c6 : tk ≤ i := by
        rcases Nat.lt_or_ge i tk with h | h
        · exact absurd (nI_le (by omega) (by omega)) c
        · exact h
      rw [nI_sub c6]
      exact start
  have loop1 : ∀ r i, i + r = z → enF (moX I j) t r i = e → K 3 [(0, .ref 3), (1, .int (nI j)), (2, .int t), (3, .int w), (4, .int (nI i))] [] I D := by
    intro r
    induction r with
    | zero =>
      intro i hi hEi
      have hie : i = e := hEi
      refine hK (3, 63, o_Gauges_gather_1) (List.mem_of_getElem? (i := 1) rfl) _ _ _ _ ?_
      refine And.intro (hj10) ?_
      rw [hjc, hS]
      refine And.intro (fun c => ?_) (fun c => ?_)
      · exact exit i hie
      · exact absurd (nI_le (by omega) (by omega)) c
    | succ r ih =>
      intro i hi hEi
      refine hK (3, 63, o_Gauges_gather_1) (List.mem_of_getElem? (i := 1) rfl) _ _ _ _ ?_
      refine And.intro (hj10) ?_
      rw [hjc, hS]
      refine And.intro (fun c => ?_) (fun c => ?_)
      · exact absurd c (nI_ge (by omega) (by omega))
      refine call_eq (c_X_momentOf g (d + 1) I D j hj (nI i)) ?_
      refine And.intro (fun c2 => ?_) (fun c2 => ?_)
      · have hie : i = e := by
          rw [enF, if_neg (i32_nle.mpr c2)] at hEi
          exact hEi
        exact exit i hie
      · have go := ih (i + 1) (by omega) (by rw [enF, if_pos (i32_nlt.mp c2)] at hEi; exact hEi)
        rw [nI_succ] at go
        exact go
  refine hK (0, 3, o_Gauges_gather_0) (List.mem_of_getElem? (i := 0) rfl) _ _ _ _ ?_
  exact loop1 z 0 (by omega) hE
end S44
