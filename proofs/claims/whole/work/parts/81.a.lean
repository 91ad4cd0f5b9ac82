/-! pass (class) -/
/-- whether every lock of the ROUTE is held, and how many -/
def hlF (sh lk : Nat → Int32) (r : Nat) : Nat → Nat → (Nat → Int32) → Nat → Bool × Nat
  | 0, _, _, c => (true, c)
  | k + 1, i, H, c => if lk (sh (4 * r + i)).toNatClampNeg = 0 then hlF sh lk r k (i + 1) H c else if H (sh (4 * r + i)).toNatClampNeg = 0 then hlF sh lk r k (i + 1) (up1 H (sh (4 * r + i)).toNatClampNeg 1) (c + 1) else (false, c)
theorem hlF_le (sh lk : Nat → Int32) (r : Nat) : ∀ k i H c, (hlF sh lk r k i H c).2 ≤ c + k
  | 0, _, _, c => Nat.le_refl _
  | k + 1, i, H, c => by
    unfold hlF
    split
    · have := hlF_le sh lk r k (i + 1) H c
      omega
    · split
      · have := hlF_le sh lk r k (i + 1) (up1 H (sh (4 * r + i)).toNatClampNeg 1) (c + 1)
        omega
      · show c ≤ c + (k + 1)
        omega
/-- what stops a PASS, how many locks it held, what it asks -/
def psF (rN rP rT : AskR) (hl : Bool × Nat) : Int32 × Nat × List Int32 := if ¬ rN.1 = 0 then (rN.1, 0, rN.2.2) else if hl.1 = false then (8, hl.2, rN.2.2) else if ¬ rP.1 = 0 then (rP.1, hl.2, rN.2.2 ++ rP.2.2) else (rT.1, hl.2, rN.2.2 ++ (rP.2.2 ++ rT.2.2))
/-- what clearing leaves -/
def clF (H : Nat → Int32) : Nat → (Nat → Int32)
  | 0 => H
  | i + 1 => up1 (clF H i) i 0
theorem clF_at (H : Nat → Int32) : ∀ i q, clF H i q = if q < i then 0 else H q
  | 0, q => by rw [if_neg (Nat.not_lt_zero _)]; rfl
  | i + 1, q => by
    show up1 (clF H i) i 0 q = _
    unfold up1
    by_cases h : q = i
    · rw [if_pos h, if_pos (by omega)]
    · rw [if_neg h, clF_at H i q]
      by_cases h2 : q < i
      · rw [if_pos h2, if_pos (by omega)]
      · rw [if_neg h2, if_neg (by omega)]
theorem clF_0 {H : Nat → Int32} (h : ∀ q, 16 ≤ q → H q = 0) : clF H 16 = fun _ => 0 := by
  funext q
  rw [clF_at]
  split
  · rfl
  next z => exact h q (by omega)
section S81
variable (g : Gp) (d : Nat) (I : MI) (D : MD)
def hdX (I : MI) (H : Nat → Int32) (c : Nat) : MI := up2 (up2 (upc I 69 H) 11 15 (nI c)) 11 16 (nI c)
theorem c_X_freeAll : Con g SHc d 142 [.ref 11] I D (EqP none (up2 (upc I 69 (clF (I 69) 16)) 11 15 0) D) := by
  refine Con.mk (LV := v_Passages_freeAll) k_Passages_freeAll (Nat.le_of_ble_eq_true rfl) (fun K hK => ?_)
  have loop : ∀ k i, i + k = 16 → K 2 [(0, .ref 11), (1, .int (nI i))] [] (upc I 69 (clF (I 69) i)) D := by
    intro k
    induction k with
    | zero =>
      intro i hi
      have hi : i = 16 := by omega
      subst hi
      refine hK (2, 27, o_Passages_freeAll_1) (List.mem_of_getElem? (i := 1) rfl) _ _ _ _ ?_
      refine And.intro (fun c => ?_) (fun c => ?_)
      · exact And.intro rfl (And.intro rfl rfl)
      · exact absurd (show nI 16 ≤ nI 16 from nI_le (Nat.le_refl _) (by decide)) c
    | succ k ih =>
      intro i hi
      have go := ih (i + 1) (by omega)
      rw [nI_succ, show clF (I 69) (i + 1) = up1 (clF (I 69) i) i 0 from rfl, ← upc_up2] at go
      refine hK (2, 27, o_Passages_freeAll_1) (List.mem_of_getElem? (i := 1) rfl) _ _ _ _ ?_
      refine And.intro (fun c => ?_) (fun c => ?_)
      · exact absurd (show nI 16 ≤ nI i from c) (nI_ge (by omega) (by omega))
      refine And.intro (inn_nI (by omega) (by decide)) ?_
      rw [nI_clamp (show i < 2 ^ 31 by omega), nar_0]
      exact go
  refine hK (0, 2, o_Passages_freeAll_0) (List.mem_of_getElem? (i := 0) rfl) _ _ _ _ ?_
  have go := loop 16 0 (by omega)
  rw [show clF (I 69) 0 = I 69 from rfl, upc_self] at go
  exact go
theorem hd_s (H : Nat → Int32) (c q : Nat) : up2 (up2 (up2 (hdX I H c) 69 q 1) 11 15 (nI c + 1)) 11 16 (nI c + 1) = hdX I (up1 H q 1) (c + 1) := by
  unfold hdX
  rw [← nI_succ]
  funext x y
  simp only [up2_at2, upc_at]
  by_cases h1 : x = 69
  · subst h1; simp [up1]
  · by_cases h2 : x = 11
    · subst h2
      by_cases h3 : y = 15
      · subst h3; simp
      · by_cases h4 : y = 16
        · subst h4; simp
        · simp [h3, h4]
    · simp [h1, h2]
theorem c_X_holdLocks (hR : RX I) (r : Nat) (hr : r < 6) (H0 : Nat → Int32) (h0 : ∀ q, 16 ≤ q → H0 q = 0) : Con g SHc d 140 [.ref 11, .int (nI r)] (hdX I H0 0) D (fun o J E => ∃ H', (∀ q, 16 ≤ q → H' q = 0) ∧ o = some (.int (bI (hlF (I 51) (I 31) r (I 50 r).toNatClampNeg 0 H0 0).1)) ∧ J = hdX I H' (hlF (I 51) (I 31) r (I 50 r).toNatClampNeg 0 H0 0).2 ∧ E = D) := by
  refine Con.mk (LV := v_Passages_holdLocks) k_Passages_holdLocks (Nat.le_of_ble_eq_true rfl) (fun K hK => ?_)
  obtain ⟨l, hl, hle, hlg⟩ := hR r hr
  have hlc : (I 50 r).toNatClampNeg = l := by rw [hle]; exact nI_clamp (by omega)
  have hrc : (nI r).toNatClampNeg = r := nI_clamp (by omega)
  have hr6 : inn (nI r) 6 := inn_nI hr (by decide)
  rw [hlc] at hK
  obtain ⟨V, hV⟩ : ∃ V, V = hlF (I 51) (I 31) r l 0 H0 0 := ⟨_, rfl⟩
  rw [← hV] at hK
  have loop : ∀ k i H c, i + k = l → hlF (I 51) (I 31) r k i H c = V → (∀ q, 16 ≤ q → H q = 0) → K 2 [(0, .ref 11), (1, .int (nI r)), (2, .int (nI i))] [] (hdX I H c) D := by
    intro k
    induction k with
    | zero =>
      intro i H c hi hv hH
      have hv : (true, c) = V := hv
      have hi : i = l := by omega
      subst hi
      refine hK (2, 85, o_Passages_holdLocks_1) (List.mem_of_getElem? (i := 1) rfl) _ _ _ _ ?_
      refine And.intro (hr6) ?_
      refine And.intro (fun cc => ?_) (fun cc => ?_)
      · rw [← hv]
        exact And.intro (Or.inr rfl) ⟨H, hH, rfl, rfl, rfl⟩
      · rw [hrc, show hdX I H c 50 r = nI i from hle] at cc
        exact absurd (nI_le (Nat.le_refl _) (by omega)) cc
    | succ k ih =>
      intro i H c hi hv hH
      obtain ⟨q, s', a, hq, hqe, -⟩ := hlg i (by omega)
      have e3 : nI r * 4 + nI i = nI (4 * r + i) := by rw [show (4 : Int32) = nI 4 from rfl, pk_mul, nI_add, Nat.mul_comm r 4]
      have p24 : inn (nI r * 4 + nI i) 24 := by rw [e3]; exact inn_nI (by omega) (by decide)
      have pcl : (nI r * 4 + nI i).toNatClampNeg = 4 * r + i := by rw [e3]; exact nI_clamp (by omega)
      have hq16 : inn (nI q) 16 := inn_nI hq (by decide)
      have qc : (nI q).toNatClampNeg = q := nI_clamp (by omega)
      have nxt : hlF (I 51) (I 31) r (k + 1) i H c = if I 31 (I 51 (4 * r + i)).toNatClampNeg = 0 then hlF (I 51) (I 31) r k (i + 1) H c else if H (I 51 (4 * r + i)).toNatClampNeg = 0 then hlF (I 51) (I 31) r k (i + 1) (up1 H (I 51 (4 * r + i)).toNatClampNeg 1) (c + 1) else (false, c) := rfl
      rw [nxt, hqe, qc] at hv
      refine hK (2, 85, o_Passages_holdLocks_1) (List.mem_of_getElem? (i := 1) rfl) _ _ _ _ ?_
      refine And.intro (hr6) ?_
      refine And.intro (fun cc => ?_) (fun cc => ?_)
      · rw [hrc, show hdX I H c 50 r = nI l from hle] at cc
        exact absurd cc (nI_ge (by omega) (by omega))
      refine And.intro (p24) ?_
      rw [pcl, show hdX I H c 51 (4 * r + i) = nI q from hqe]
      refine And.intro (hq16) ?_
      refine And.intro (fun c1 => ?_) (fun c1 => ?_)
      · rw [qc] at c1
        have c1 : I 31 q = 0 := c1
        rw [if_pos c1] at hv
        have go := ih (i + 1) H c (by omega) hv hH
        rw [nI_succ] at go
        exact go
      rw [qc] at c1
      have c1 : ¬ I 31 q = 0 := c1
      rw [if_neg c1] at hv
      refine And.intro (hq16) ?_
      refine And.intro (fun c2 => ?_) (fun c2 => ?_)
      · rw [qc] at c2
        have c2 : H q = 0 := c2
        rw [if_pos c2] at hv
        have go := ih (i + 1) (up1 H q 1) (c + 1) (by omega) hv (fun x hx => by unfold up1; rw [if_neg (by omega)]; exact hH x hx)
        rw [nI_succ, ← hd_s] at go
        refine And.intro (hq16) ?_
        rw [qc, nar_1]
        exact go
      · rw [qc] at c2
        have c2 : ¬ H q = 0 := c2
        rw [if_neg c2] at hv
        rw [← hv]
        exact And.intro (Or.inl rfl) ⟨H, hH, rfl, rfl, rfl⟩
  refine hK (0, 2, o_Passages_holdLocks_0) (List.mem_of_getElem? (i := 0) rfl) _ _ _ _ ?_
  exact loop l 0 H0 0 (by omega) hV.symm h0
def hlX (I : MI) (c : Nat) : MI := up2 (up2 I 11 14 (I 11 14 + 1)) 11 16 (nI c)
theorem hd_ov (I1 : MI) (T : Tr) (sc : MI) (H : Nat → Int32) (c : Nat) : hdX (ovX (trX I1 T) sc) H c = ovX (trX (hdX I1 H c) T) sc := by
  unfold hdX
  rw [ov_nc _ _ _ _ (fun _ => rfl), ov_n2 _ _ _ _ _ (by rfl), ov_n2 _ _ _ _ _ (by rfl)]
  congr 1
  unfold trX
  funext x y
  simp only [up2_at2, upc_at]
  by_cases h1 : x = 69
  · subst h1; simp
  · by_cases h2 : x = 11
    · subst h2; simp
    · simp [h1, h2]
theorem hd_0 (hh : I 69 = fun _ => 0) (h0 : I 11 15 = 0) : hdX (up2 I 11 14 (I 11 14 + 1)) (fun _ => 0) 0 = hlX I 0 := by
  unfold hdX hlX
  funext x y
  simp only [up2_at2, upc_at]
  by_cases h1 : x = 69
  · subst h1; simp [hh]
  · by_cases h2 : x = 11
    · subst h2
      by_cases h3 : y = 15
      · subst h3; simp [h0, nI_0]
      · simp [h3]
    · simp [h1, h2]
theorem hd_c (hh : I 69 = fun _ => 0) (h0 : I 11 15 = 0) (H : Nat → Int32) (c : Nat) : up2 (upc (hdX (up2 I 11 14 (I 11 14 + 1)) H c) 69 (fun _ => 0)) 11 15 0 = hlX I c := by
  unfold hdX hlX
  funext x y
  simp only [up2_at2, upc_at]
  by_cases h1 : x = 69
  · subst h1; simp [hh]
  · by_cases h2 : x = 11
    · subst h2
      by_cases h3 : y = 15
      · subst h3; simp [h0]
      · simp [h3]
    · simp [h1, h2]
def gtX (I : MI) (s : Int32) (r : Nat) : Int32 × Nat × List Int32 := psF (askX I 0 5 s) (askX I 2 5 s) (askX I 3 5 s) (hlF (I 51) (I 31) r (I 50 r).toNatClampNeg 0 (fun _ => 0) 0)
theorem c_X_askAtLast {ms : Nat} (hms : ms ≤ 40) (hP : shOk (I 42) (I 46) (I 47) ms) (s : Int32) (hs : ix s (nI ms) = true) (T : Tr) (hT : T.1 ≤ 100) (sc : MI) : Con g SHc (d + 14) 141 [.ref 11, .int s] (ovX (trX I T) sc) D (fun o J E => ∃ sc', E = D ∧ o = some (.int (if ¬ (askX I 2 5 s).1 = 0 then (askX I 2 5 s).1 else (askX I 3 5 s).1)) ∧ J = ovX (trX I (begsT T (if ¬ (askX I 2 5 s).1 = 0 then (askX I 2 5 s).2.2 else (askX I 2 5 s).2.2 ++ (askX I 3 5 s).2.2))) sc') := by
  refine Con.mk (LV := v_Passages_askAtLast) k_Passages_askAtLast (Nat.le_of_ble_eq_true rfl) (fun K hK => ?_)
  have hA : ∀ w T' sc', wi w 0 4 = true → T'.1 ≤ 100 → Con g SHc (d + 13) 79 [.ref 6, .int s, .int w, .int 0] (ovX (trX I T') sc') D (asP I D T' sc' (askX I w 5 s)) := fun w T' sc' hw hT' => c_X_askFor g d I D ms hms hP w hw 5 0 rfl s T' sc' (ix_sh hs) hT' (Or.inl rfl)
  have a2 := fun T' sc' => hA 2 T' sc' (by decide)
  have a3 := fun T' sc' => hA 3 T' sc' (by decide)
  have hT1 : (begsT T (askX I 2 5 s).2.2).1 ≤ 100 := begsT_le _ hT
  generalize askX I 2 5 s = rP at hK a2 hT1
  generalize askX I 3 5 s = rT at hK a3
  have ef : ∀ r f sc, ovX (trX I r) (up2 sc 6 10 f) 6 10 = f := fun r f sc => by
    show up2 sc 6 10 f 6 10 = f
    rw [up2_at]
  refine hK (0, 40, o_Passages_askAtLast_0) (List.mem_of_getElem? (i := 0) rfl) _ _ _ _ ?_
  refine call_of (a2 T sc hT) ?_
  rintro o J E ⟨rfl, rfl, v, rfl, -⟩
  refine And.intro (fun c1 => ?_) (fun c1 => ?_)
  · rw [ef] at c1
    refine ⟨up2 sc 6 10 rP.1, rfl, ?_, ?_⟩
    · show some (Value.int (ovX (trX I (begsT T rP.2.2)) (up2 sc 6 10 rP.1) 6 10)) = _
      rw [ef, if_pos c1]
    · rw [if_pos c1]
  · rw [ef] at c1
    refine call_of (a3 _ _ hT1) ?_
    rintro o J E ⟨rfl, rfl, v, rfl, -⟩
    have c1 : ¬ ¬ rP.1 = 0 := fun z => z c1
    refine ⟨up2 (up2 sc 6 10 rP.1) 6 10 rT.1, rfl, ?_, ?_⟩
    · show some (Value.int (ovX (trX I (begsT (begsT T rP.2.2) rT.2.2)) (up2 (up2 sc 6 10 rP.1) 6 10 rT.1) 6 10)) = _
      rw [ef, if_neg c1]
    · rw [if_neg c1, begsT_app]
theorem c_X_goThrough {ms np : Nat} (hR : RX I) (hms : ms ≤ 40) (hP : shOk (I 42) (I 46) (I 47) ms) (hPX : PX I np ms) (hh : I 69 = fun _ => 0) (h0 : I 11 15 = 0) (p s r : Nat) (hp : p < np) (hs : s < ms) (hse : I 62 p = nI s) (hr : r < 6) (hre : I 63 p = nI r) (T : Tr) (hT : T.1 ≤ 100) (sc : MI) : Con g SHc (d + 15) 139 [.ref 11, .int (nI p)] (ovX (trX I T) sc) D (fun o J E => ∃ sc', E = D ∧ o = some (.int (gtX I (nI s) r).1) ∧ J = ovX (trX (hlX I (gtX I (nI s) r).2.1) (begsT T (gtX I (nI s) r).2.2)) sc') := by
  refine Con.mk (LV := v_Passages_goThrough) k_Passages_goThrough (Nat.le_of_ble_eq_true rfl) (fun K hK => ?_)
  have hp40 : inn (nI p) 40 := inn_nI (Nat.lt_of_lt_of_le hp hPX.1) (by decide)
  have hn40 := hPX.1
  have pc : (nI p).toNatClampNeg = p := nI_clamp (by omega)
  have hix : ix (nI s) (nI ms) = true := by
    unfold ix
    rw [decide_eq_true (nI_pos' (by omega)), decide_eq_true (nI_lt hs (by omega))]
    rfl
  have hA : ∀ sc', Con g SHc (d + 14) 79 [.ref 6, .int (nI s), .int 0, .int 0] (ovX (trX (hlX I 0) T) sc') D (asP (hlX I 0) D T sc' (askX I 0 5 (nI s))) := fun sc' => c_X_askFor g (d + 1) (hlX I 0) D ms hms hP 0 (by decide) 5 0 rfl (nI s) T sc' (ix_sh hix) hT (Or.inl rfl)
  have hT1 : (begsT T (askX I 0 5 (nI s)).2.2).1 ≤ 100 := begsT_le _ hT
  have hL : ∀ T sc, Con g SHc (d + 14) 140 [.ref 11, .int (nI r)] (ovX (trX (hlX I 0) T) sc) D (fun o J E => ∃ H', (∀ q, 16 ≤ q → H' q = 0) ∧ o = some (.int (bI (hlF (I 51) (I 31) r (I 50 r).toNatClampNeg 0 (fun _ => 0) 0).1)) ∧ J = ovX (trX (hdX (up2 I 11 14 (I 11 14 + 1)) H' (hlF (I 51) (I 31) r (I 50 r).toNatClampNeg 0 (fun _ => 0) 0).2) T) sc ∧ E = D) := by
    intro T sc
    have h9 := c_X_holdLocks g (d + 14) (ovX (trX (up2 I 11 14 (I 11 14 + 1)) T) sc) D hR r hr (fun _ => 0) (fun _ _ => rfl)
    rw [hd_ov, hd_0 I hh h0] at h9
    refine con_mono h9 ?_
    rintro o J E ⟨H', a1, a2, a3, a4⟩
    exact ⟨H', a1, a2, by rw [a3, hd_ov]; rfl, a4⟩
  have hQ : ∀ H' c T sc, T.1 ≤ 100 → Con g SHc (d + 14) 141 [.ref 11, .int (nI s)] (ovX (trX (hdX (up2 I 11 14 (I 11 14 + 1)) H' c) T) sc) D (fun o J E => ∃ sc', E = D ∧ o = some (.int (if ¬ (askX I 2 5 (nI s)).1 = 0 then (askX I 2 5 (nI s)).1 else (askX I 3 5 (nI s)).1)) ∧ J = ovX (trX (hdX (up2 I 11 14 (I 11 14 + 1)) H' c) (begsT T (if ¬ (askX I 2 5 (nI s)).1 = 0 then (askX I 2 5 (nI s)).2.2 else (askX I 2 5 (nI s)).2.2 ++ (askX I 3 5 (nI s)).2.2))) sc') := fun H' c T sc hT => c_X_askAtLast g d (hdX (up2 I 11 14 (I 11 14 + 1)) H' c) D hms hP (nI s) hix T hT sc
  have hF : ∀ H' c T sc, (∀ q, 16 ≤ q → H' q = 0) → Con g SHc (d + 14) 142 [.ref 11] (ovX (trX (hdX (up2 I 11 14 (I 11 14 + 1)) H' c) T) sc) D (EqP none (ovX (trX (hlX I c) T) sc) D) := by
    intro H' c T sc hH
    have h9 := c_X_freeAll g (d + 14) (ovX (trX (hdX (up2 I 11 14 (I 11 14 + 1)) H' c) T) sc) D
    rw [show ovX (trX (hdX (up2 I 11 14 (I 11 14 + 1)) H' c) T) sc 69 = H' from rfl, clF_0 hH, ov_nc _ _ _ _ (fun _ => rfl), ov_n2 _ _ _ _ _ (by rfl)] at h9
    have e : up2 (upc (trX (hdX (up2 I 11 14 (I 11 14 + 1)) H' c) T) 69 (fun _ => 0)) 11 15 0 = trX (hlX I c) T := by
      rw [← hd_c I hh h0 H' c]
      unfold trX
      funext x y
      simp only [up2_at2, upc_at]
      by_cases h1 : x = 69
      · subst h1; simp
      · by_cases h2 : x = 11
        · subst h2; simp
        · simp [h1, h2]
    rw [e] at h9
    exact h9
  unfold gtX at hK
  generalize hlF (I 51) (I 31) r (I 50 r).toNatClampNeg 0 (fun _ => 0) 0 = hl at hK hL
  generalize askX I 0 5 (nI s) = rN at hK hA hT1
  generalize askX I 2 5 (nI s) = rP at hK hQ
  generalize askX I 3 5 (nI s) = rT at hK hQ
  have ef : ∀ J r f sc, ovX (trX J r) (up2 sc 6 10 f) 6 10 = f := fun J r f sc => by
    show up2 sc 6 10 f 6 10 = f
    rw [up2_at]
  refine hK (0, 84, o_Passages_goThrough_0) (List.mem_of_getElem? (i := 0) rfl) _ _ _ _ ?_
  have e0 : up2 (up2 (ovX (trX I T) sc) 11 14 (ovX (trX I T) sc 11 14 + 1)) 11 16 0 = ovX (trX (hlX I 0) T) sc := by
    rw [ov_n2 _ _ _ _ _ (by rfl), ov_n2 _ _ _ _ _ (by rfl)]
    congr 1
    unfold trX hlX
    funext x y
    simp only [up2_at2, upc_at]
    by_cases h2 : x = 11
    · subst h2; simp [nI_0]
      rfl
    · simp [h2]
  refine And.intro (hp40) ?_
  rw [e0, pc, show ovX (trX (hlX I 0) T) sc 62 p = nI s from hse]
  refine call_of (hA sc) ?_
  rintro o J E ⟨rfl, rfl, v, rfl, -⟩
  refine And.intro (fun c1 => ?_) (fun c1 => ?_)
  · rw [ef] at c1
    refine And.intro (hp40) ?_
    rw [pc, show ovX (trX (hlX I 0) (begsT T rN.2.2)) (up2 sc 6 10 rN.1) 63 p = nI r from hre]
    refine call_of (hL _ _) ?_
    rintro o J E ⟨H', hH, rfl, rfl, rfl⟩
    refine And.intro (fun c2 => ?_) (fun c2 => ?_)
    · have h2 := bI_0.mp c2
      refine call_eq (hF H' _ _ _ hH) ?_
      have e : psF rN rP rT hl = (8, hl.2, rN.2.2) := by
        unfold psF
        rw [if_neg (fun z => z c1), if_pos h2]
      rw [e]
      exact ⟨_, rfl, rfl, rfl⟩
    · have h2 := bI_n0.mp c2
      refine And.intro (hp40) ?_
      rw [pc, show ovX (trX (hdX (up2 I 11 14 (I 11 14 + 1)) H' hl.2) (begsT T rN.2.2)) (up2 sc 6 10 rN.1) 62 p = nI s from hse]
      refine call_of (hQ _ _ _ _ hT1) ?_
      rintro o J E ⟨sc', rfl, rfl, rfl⟩
      refine call_eq (hF H' _ _ _ hH) ?_
      have e : psF rN rP rT hl = ((if ¬ rP.1 = 0 then rP.1 else rT.1), hl.2, rN.2.2 ++ (if ¬ rP.1 = 0 then rP.2.2 else rP.2.2 ++ rT.2.2)) := by
        unfold psF
        rw [if_neg (fun z => z c1), if_neg (by rw [h2]; decide)]
        by_cases y : rP.1 = 0
        · rw [if_neg (fun z => z y), if_neg (fun z => z y), if_neg (fun z => z y)]
        · rw [if_pos y, if_pos y, if_pos y]
      rw [e]
      refine ⟨sc', rfl, rfl, ?_⟩
      rw [begsT_app]
  · rw [ef] at c1
    have e : psF rN rP rT hl = (rN.1, 0, rN.2.2) := by
      unfold psF
      rw [if_pos c1]
    rw [e]
    refine ⟨up2 sc 6 10 rN.1, rfl, ?_, rfl⟩
    show some (Value.int (ovX (trX (hlX I 0) (begsT T rN.2.2)) (up2 sc 6 10 rN.1) 6 10)) = _
    rw [ef]
def tlX (f : Int32) (I : MI) : MI := if f = 0 then I else tellX f I
def pzF (f : Int32) : Int32 := if f = 0 then 1 else -10 - f
theorem c_X_pass {ms np : Nat} (hR : RX I) (hms : ms ≤ 40) (hP : shOk (I 42) (I 46) (I 47) ms) (hPX : PX I np ms) (hh : I 69 = fun _ => 0) (h0 : I 11 15 = 0) (p : Int32) (sc : MI) (sd : MD) : Con g SHc (d + 16) 138 [.ref 0, .int p] (ovX I sc) (ovD D sd) (Sc (some (.int (sel3 (ix p (nI np)) (decide (3000 ≤ I 1 0)) false (-2) (-4) 0 (pzF (gtX I (I 62 p.toNatClampNeg) (rtX I p.toNatClampNeg)).1)))) (sel3 (ix p (nI np)) (decide (3000 ≤ I 1 0)) false I I I (tlX (gtX I (I 62 p.toNatClampNeg) (rtX I p.toNatClampNeg)).1 (trX (hlX I (gtX I (I 62 p.toNatClampNeg) (rtX I p.toNatClampNeg)).2.1) (begsT (0, I 49) (gtX I (I 62 p.toNatClampNeg) (rtX I p.toNatClampNeg)).2.2)))) D) := by
  refine Con.mk (LV := v_X_pass) k_X_pass (Nat.le_of_ble_eq_true rfl) (fun K hK => ?_)
  refine hK (0, 58, o_X_pass_0) (List.mem_of_getElem? (i := 0) rfl) _ _ _ _ ?_
  refine call_eq (c_X_isPassage g (d + 15) (ovX I sc) (ovD D sd) p) ?_
  have eT : ovX I sc 11 13 = nI np := hPX.2.1
  refine And.intro (fun c1 => ?_) (fun c1 => ?_)
  · rw [eT] at c1
    have h1 : ix p (nI np) = true := bI_n0.mp c1
    rw [h1]
    refine call_eq (c_X_areSpent g (d + 15) (ovX I sc) (ovD D sd)) ?_
    refine And.intro (fun c2 => ?_) (fun c2 => ?_)
    · have h2 : decide (3000 ≤ I 1 0) = false := bI_0.mp c2
      rw [h2]
      obtain ⟨j, hj, rfl⟩ := ix_nI (show np < 2 ^ 31 by have := hPX.1; omega) h1
      obtain ⟨s, r, f, hs, hse, hr, hre, -⟩ := hPX.2.2 j hj
      have jc : (nI j).toNatClampNeg = j := nI_clamp (by have := hPX.1; omega)
      have er : rtX I j = r := by unfold rtX; rw [hre, nI_clamp (show r < 2 ^ 31 by omega)]
      have hC : Con g SHc (d + 15) 139 [.ref 11, .int (nI j)] (ovX (trX I (0, I 49)) sc) (ovD D sd) (fun o J E => ∃ sc', E = ovD D sd ∧ o = some (.int (gtX I (nI s) r).1) ∧ J = ovX (trX (hlX I (gtX I (nI s) r).2.1) (begsT (0, I 49) (gtX I (nI s) r).2.2)) sc') := c_X_goThrough g d I (ovD D sd) hR hms hP hPX hh h0 j s r hj hs hse hr hre (0, I 49) (Nat.zero_le _) sc
      have eI : trX I (0, I 49) = up2 I 6 8 0 := by
        unfold trX
        show up2 (upc I 49 (I 49)) 6 8 (nI 0) = _
        rw [upc_self, nI_0]
      rw [eI, ← ov_n2 _ _ _ _ _ (by rfl)] at hC
      rw [jc, er, hse]
      refine call_of hC ?_
      rintro o J E ⟨sc', rfl, rfl, rfl⟩
      generalize gtX I (nI s) r = V
      refine And.intro (fun c3 => ?_) (fun c3 => ?_)
      · have e1 : pzF V.1 = 1 := by unfold pzF; rw [if_pos c3]
        have e2 : ∀ X, tlX V.1 X = X := fun X => by unfold tlX; rw [if_pos c3]
        rw [e1, e2]
        exact sc_of
      · have e1 : pzF V.1 = -10 - V.1 := by unfold pzF; rw [if_neg c3]
        have e2 : ∀ X, tlX V.1 X = tellX V.1 X := fun X => by unfold tlX; rw [if_neg c3]
        refine call_eq (c_X_tell g (d + 15) _ (ovD D sd) _) ?_
        rw [e1, e2, tellX_ov]
        exact sc_of
    · have h2 : decide (3000 ≤ I 1 0) = true := bI_n0.mp c2
      rw [h2]
      exact sc_of
  · rw [eT] at c1
    have h1 : ix p (nI np) = false := bI_0.mp c1
    rw [h1]
    exact sc_of
end S81
