section S45
variable (g : Gp) (d : Nat) (I : MI) (D : MD)
/-- the SURGE that fades -/
def sgV (fd t la : Int32) (G : Nat → UInt64) (n : Nat) : UInt64 := if fd * 3600 ≤ t - la then 0 else FP.dmul (G ((n - 1) / 2)) (FP.ddiv (FP.i2d (fd * 3600 - (t - la))) (FP.dmul (FP.i2d fd) 4660134898793709568))
theorem d_3600 : FP.Core.DInt 3600 4660134898793709568 := dint_of (v := 3600) (by decide +kernel)
theorem fd_int {fd : Nat} (h : fd ≤ 48) : FP.Core.DInt (fd * 3600) (FP.dmul (FP.i2d (nI fd)) 4660134898793709568) := by
  have h1 := dint_i2d (nI fd)
  rw [nI_toInt (by omega)] at h1
  exact FP.Core.dmul_int h1 d_3600 (by omega)
theorem fd_ge1 {fd : Nat} (h0 : 1 ≤ fd) (h : fd ≤ 48) : ge1 (FP.dmul (FP.i2d (nI fd)) 4660134898793709568) := by
  obtain ⟨t, b, r, y1, y2, y3⟩ := int_un (fd_int h)
  exact ⟨t, b, r, y1, by rw [y2]; exact Nat.le_mul_of_pos_left _ (by omega)⟩
theorem fq_fb {fd : Nat} (h0 : 1 ≤ fd) (h : fd ≤ 48) (v : Int32) : fb 31 (FP.ddiv (FP.i2d v) (FP.dmul (FP.i2d (nI fd)) 4660134898793709568)) := fb_div (by omega) (fb_i2d (by omega) (i32_abs v)) (fd_ge1 h0 h)
theorem half_n {n : Nat} (h0 : 1 ≤ n) (h : n ≤ 9) : (nI n - 1) / 2 = nI ((n - 1) / 2) := by
  have h2 : n = 1 ∨ n = 2 ∨ n = 3 ∨ n = 4 ∨ n = 5 ∨ n = 6 ∨ n = 7 ∨ n = 8 ∨ n = 9 := by omega
  rcases h2 with h | h | h | h | h | h | h | h | h <;> subst h <;> decide
theorem c_X_fadedMiddle (n fd : Nat) (h0 : 1 ≤ n) (hn : n ≤ 9) (hI : I 3 12 = nI n) (f0 : 1 ≤ fd) (f1 : fd ≤ 48) (hF : I 3 11 = nI fd) (hG : fb 301 (D 29 ((n - 1) / 2))) (t : Int32) : Con g SHc d 39 [.ref 3, .int t] I D (EqP (some (.double (sgV (nI fd) t (I 3 14) (D 29) n))) I D) := by
  refine Con.mk (LV := v_Gauges_fadedMiddle) k_Gauges_fadedMiddle (Nat.le_of_ble_eq_true rfl) (fun K hK => ?_)
  refine hK (0, 60, o_Gauges_fadedMiddle_0) (List.mem_of_getElem? (i := 0) rfl) _ _ _ _ ?_
  refine And.intro (fun c1 => ?_) (fun c1 => ?_)
  · exfalso
    rw [hI, i32_lt, nI_toInt (by omega), show ((1 : Int32)).toInt = 1 by decide] at c1
    omega
  rw [hF]
  refine And.intro (fun c2 => ?_) (fun c2 => ?_)
  · refine And.intro (by decide) ?_
    rw [hI]
    refine And.intro (by rw [half_n h0 hn]; exact inn_nI (by omega) (by decide)) ?_
    rw [half_n h0 hn, nI_clamp (show (n - 1) / 2 < 2 ^ 31 by omega)]
    refine And.intro (fb_n (fb_mul (E := 31) (F := 12) (by omega) (fb_i2d (by omega) (i32_abs _)) (fb_c (by decide +kernel)))) ?_
    rw [hF]
    refine And.intro (fb_n (fq_fb f0 f1 _)) ?_
    refine And.intro (fb_n (fb_mul (E := 301) (F := 31) (by omega) hG (fq_fb f0 f1 _))) ?_
    refine And.intro ?_ (And.intro rfl rfl)
    unfold sgV
    rw [if_neg (i32_nle.mpr c2)]
  · refine And.intro ?_ (And.intro rfl rfl)
    unfold sgV
    rw [if_pos (i32_nlt.mp c2)]
def foF (st : Nat → Int32) (s : Int32) : Nat → Nat → Int32
  | 0, _ => -1
  | r + 1, i => if st i = s then nI i else foF st s r (i + 1)
theorem c_X_firstOf (n : Nat) (hn : n ≤ 10) (hI : I 3 9 = nI n) (s : Int32) : Con g SHc d 54 [.ref 3, .int s] I D (EqP (some (.int (foF (I 22) s n 0))) I D) := by
  refine Con.mk (LV := v_Gauges_firstOf) k_Gauges_firstOf (Nat.le_of_ble_eq_true rfl) (fun K hK => ?_)
  have loop : ∀ r i, i + r = n → foF (I 22) s r i = foF (I 22) s n 0 → K 2 [(0, .ref 3), (1, .int s), (2, .int (nI i))] [] I D := by
    intro r
    induction r with
    | zero =>
      intro i hi hf
      have hi : i = n := by omega
      subst hi
      refine hK (2, 30, o_Gauges_firstOf_1) (List.mem_of_getElem? (i := 1) rfl) _ _ _ _ ?_
      refine And.intro (fun c => ?_) (fun c => ?_)
      · rw [← hf]
        exact And.intro rfl (And.intro rfl rfl)
      · exact absurd (by rw [hI]; exact nI_le (Nat.le_refl _) (by omega)) c
    | succ r ih =>
      intro i hi hf
      have hcl : (nI i).toNatClampNeg = i := nI_clamp (by omega)
      refine hK (2, 30, o_Gauges_firstOf_1) (List.mem_of_getElem? (i := 1) rfl) _ _ _ _ ?_
      refine And.intro (fun c => ?_) (fun c => ?_)
      · rw [hI] at c
        exact absurd c (nI_ge (by omega) (by omega))
      refine And.intro (inn_nI (by omega) (by decide)) ?_
      refine And.intro (fun c1 => ?_) (fun c1 => ?_)
      · rw [hcl] at c1
        have go := ih (i + 1) (by omega) (by rw [foF, if_neg c1] at hf; exact hf)
        rw [nI_succ] at go
        exact go
      · rw [hcl] at c1
        rw [← hf, foF, if_pos c1]
        exact And.intro rfl (And.intro rfl rfl)
  refine hK (0, 2, o_Gauges_firstOf_0) (List.mem_of_getElem? (i := 0) rfl) _ _ _ _ ?_
  exact loop n 0 (by omega) rfl
def srP (I : MI) (D : MD) (n m tk fd : Nat) (ga t : Int32) : Po := fun o I' D' => if (ix ga (nI m) && wi t 0 2591999) = true ∧ ¬ 3000 ≤ I 1 0 then (if I 25 ga.toNatClampNeg = 0 then ∃ S, S = sgX I D n ga.toNatClampNeg (I 26 ga.toNatClampNeg).toNatClampNeg tk t (I 0 11) ∧ D' = gaD D S ∧ o = some (.long (if S.n = 0 then 9221120237041090560 else (sgV (nI fd) t S.la S.G S.n).toInt64)) ∧ I' = (if S.n = 0 then tellX 7 (up2 (gaI I S) 0 13 (nI S.k)) else up2 (gaI I S) 0 13 (nI S.k)) else o = some (.long 9221120237041090560) ∧ I' = tellX 1 I ∧ D' = D) else o = some (.long 9221120237041090560) ∧ I' = I ∧ D' = D
theorem srP_no {I : MI} {D : MD} {n m tk fd : Nat} {ga t : Int32} (h : ¬ ((ix ga (nI m) && wi t 0 2591999) = true ∧ ¬ 3000 ≤ I 1 0)) : srP I D n m tk fd ga t (some (.long 9221120237041090560)) I D := by
  unfold srP
  rw [if_neg h]
  exact And.intro rfl (And.intro rfl rfl)
theorem srP_o {I : MI} {D : MD} {n m tk fd : Nat} {ga t : Int32} (h1 : ix ga (nI m) = true) (h2 : wi t 0 2591999 = true) (h3 : ¬ 3000 ≤ I 1 0) (h4 : ¬ I 25 ga.toNatClampNeg = 0) : srP I D n m tk fd ga t (some (.long 9221120237041090560)) (tellX 1 I) D := by
  unfold srP
  rw [if_pos (And.intro (by rw [h1, h2]; rfl) h3), if_neg h4]
  exact And.intro rfl (And.intro rfl rfl)
theorem srP_y {I : MI} {D : MD} {n m tk fd : Nat} {ga t : Int32} {o : Option Value} {I' : MI} {D' : MD} (h1 : ix ga (nI m) = true) (h2 : wi t 0 2591999 = true) (h3 : ¬ 3000 ≤ I 1 0) (h4 : I 25 ga.toNatClampNeg = 0) {S : Srg} (hS : S = sgX I D n ga.toNatClampNeg (I 26 ga.toNatClampNeg).toNatClampNeg tk t (I 0 11)) (hD : D' = gaD D S) (ho : o = some (.long (if S.n = 0 then 9221120237041090560 else (sgV (nI fd) t S.la S.G S.n).toInt64))) (hI : I' = (if S.n = 0 then tellX 7 (up2 (gaI I S) 0 13 (nI S.k)) else up2 (gaI I S) 0 13 (nI S.k))) : srP I D n m tk fd ga t o I' D' := by
  unfold srP
  rw [if_pos (And.intro (by rw [h1, h2]; rfl) h3), if_pos h4]
  exact ⟨S, hS, hD, ho, hI⟩
theorem sgX_n (I : MI) (D : MD) (n j z tk : Nat) (t w : Int32) (h9 : tk ≤ 9) : (sgX I D n j z tk t w).n ≤ 9 := by
  have := sgF_n (moX I j) (shX' I j) (noX I n j w) (hhX I n j w) (D 29) (I 3 14) (enX I j z t - tk) (enX I j z t - (enX I j z t - tk))
  show (sgF (moX I j) (shX' I j) (noX I n j w) (hhX I n j w) (D 29) (I 3 14) (enX I j z t - tk) (enX I j z t - (enX I j z t - tk))).n ≤ 9
  omega
theorem c_X_surge (n m tk fd : Nat) (hn : n ≤ 60) (hI : I 2 9 = nI n) (hw : ∀ i, i < n → ∃ w, w ≤ 8 ∧ I 20 i = nI w) (hm : m ≤ 10) (hM : I 3 9 = nI m) (hS : ∀ j, j < m → ∃ z, z ≤ 120 ∧ I 26 j = nI z) (h9 : tk ≤ 9) (htk : I 3 10 = nI tk) (f0 : 1 ≤ fd) (f1 : fd ≤ 48) (hF : I 3 11 = nI fd) (ga t : Int32)
    (hnz : ∀ j z, j < m → z ≤ 120 → I 26 j = nI z → ∀ S, S = sgX I D n j z tk t (I 0 11) → 0 < S.n → fb 301 (S.G ((S.n - 1) / 2)) ∧ FP.Core.DFin (sgV (nI fd) t S.la S.G S.n) ∧ nz (sgV (nI fd) t S.la S.G S.n)) : Con g SHc (d + 3) 36 [.ref 0, .int ga, .int t] I D
    (srP I D n m tk fd ga t) := by
  refine Con.mk (LV := v_X_surge) k_X_surge (Nat.le_of_ble_eq_true rfl) (fun K hK => ?_)
  refine hK (0, 109, o_X_surge_0) (List.mem_of_getElem? (i := 0) rfl) _ _ _ _ ?_
  refine call_eq (c_X_isGauge g (d + 2) I D ga) ?_
  rw [hM]
  refine And.intro (fun c1 => ?_) (fun c1 => ?_)
  · have h1 : ix ga (nI m) = false := bI_0.mp c1
    refine srP_no ?_
    simp [h1]
  have h1 : ix ga (nI m) = true := bI_n0.mp c1
  obtain ⟨j, hj, rfl⟩ := ix_nI (by omega) h1
  have hc : (nI j).toNatClampNeg = j := nI_clamp (by omega)
  obtain ⟨z, hz, hze⟩ := hS j hj
  refine call_eq (c_X_isMoment g (d + 2) I D t) ?_
  refine And.intro (fun c2 => ?_) (fun c2 => ?_)
  · refine srP_no ?_
    simp [bI_0.mp c2]
  have h2 := bI_n0.mp c2
  refine call_eq (c_X_areSpent g (d + 2) I D) ?_
  refine And.intro (fun c3 => ?_) (fun c3 => ?_)
  · have h3 : ¬ 3000 ≤ I 1 0 := of_decide_eq_false (bI_0.mp c3)
    refine And.intro (inn_nI (by omega) (by decide)) ?_
    refine And.intro (fun c4 => ?_) (fun c4 => ?_)
    · rw [hc] at c4
      refine call_eq (c_X_gather g d I D n j z tk hn hI hw (by omega) hz hze h9 htk t (I 0 11)) ?_
      obtain ⟨S, hSS⟩ : ∃ S, S = sgX I D n j z tk t (I 0 11) := ⟨_, rfl⟩
      have hK9 := hnz j z hj hz hze S hSS
      have hn9 : S.n ≤ 9 := by
        have := sgX_n I D n j z tk t (I 0 11) h9
        rw [← hSS] at this
        exact this
      rw [← hSS]
      refine And.intro (fun c5 => ?_) (fun c5 => ?_)
      · have h5 : ¬ S.n = 0 := fun h => c5 (by rw [h]; rfl)
        have h6 := hK9 (by omega)
        refine call_eq (c_X_fadedMiddle g (d + 2) (up2 (gaI I S) 0 13 (nI S.k)) (gaD D S) S.n fd (by omega) hn9 rfl f0 f1 hF h6.1 t) ?_
        refine call_eq (c_X_bitsOf g (d + 2) (up2 (gaI I S) 0 13 (nI S.k)) (gaD D S) (sgV (nI fd) t S.la S.G S.n) h6.2.1 h6.2.2) ?_
        refine srP_y h1 h2 h3 (by rw [hc]; exact c4) (S := S) (by rw [hc, hze, nI_clamp (show z < 2 ^ 31 by omega)]; exact hSS) rfl ?_ ?_
        · rw [if_neg h5]
        · rw [if_neg h5]
      · have h5 : S.n = 0 := (nI_eq (a := S.n) (b := 0) (by omega) (by decide)).mp c5
        refine call_eq (c_X_tell g (d + 2) (up2 (gaI I S) 0 13 (nI S.k)) (gaD D S) 7) ?_
        refine srP_y h1 h2 h3 (by rw [hc]; exact c4) (S := S) (by rw [hc, hze, nI_clamp (show z < 2 ^ 31 by omega)]; exact hSS) rfl ?_ ?_
        · rw [if_pos h5]
        · rw [if_pos h5]
    · rw [hc] at c4
      refine call_eq (c_X_tell g (d + 2) I D 1) ?_
      exact srP_o h1 h2 h3 (by rw [hc]; exact c4)
  · refine srP_no ?_
    simp [of_decide_eq_true (bI_n0.mp c3)]
end S45
