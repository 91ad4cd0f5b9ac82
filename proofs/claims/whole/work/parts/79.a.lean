/-! plan (class) -/
section S79
variable (g : Gp) (d : Nat) (I : MI) (D : MD)
def psX (I : MI) (wt st co : Nat → Int32) (F : Fi) : MI := fiX (upc (upc (upc I 67 wt) 66 st) 68 co) F
theorem ps_w (wt st co : Nat → Int32) (F : Fi) (p : Nat) (v : Int32) : up2 (psX I wt st co F) 67 p v = psX I (up1 wt p v) st co F := by
  unfold psX fiX
  funext x y
  simp only [up2_at2, upc_at]
  by_cases h1 : x = 67
  · subst h1; simp [up1]
  · simp [h1]
theorem ps_s (wt st co : Nat → Int32) (F : Fi) (p : Nat) (v : Int32) : up2 (psX I wt st co F) 66 p v = psX I wt (up1 st p v) co F := by
  unfold psX fiX
  funext x y
  simp only [up2_at2, upc_at]
  by_cases h1 : x = 66
  · subst h1; simp [up1]
  · simp [h1]
theorem ps_c (wt st co co' : Nat → Int32) (F : Fi) : upc (psX I wt st co F) 68 co' = psX I wt st co' F := by
  unfold psX fiX
  funext x y
  simp only [up2_at2, upc_at]
  by_cases h1 : x = 68
  · subst h1; simp
  · simp [h1]
theorem ps_t (wt st co : Nat → Int32) (F : Fi) (T : Tr) (f : Int32) : tellX f (trX (psX I wt st co F) T) = trX (psX I wt st co (F.1 + 1, f)) T := by
  unfold tellX trX psX fiX
  funext x y
  simp only [up2_at2, upc_at]
  by_cases h1 : x = 1
  · subst h1
    by_cases h2 : y = 0
    · subst h2; simp
    · by_cases h3 : y = 1
      · subst h3; simp
      · simp [h2, h3]
  · simp [h1]
theorem ps_ta (wt st co : Nat → Int32) (F : Fi) (T : Tr) (a : Int32) : tellA a (trX (psX I wt st co F) T) = trX (psX I wt st co (telF a F)) T := by
  unfold tellA telF
  split
  · rw [ps_t]
  · rfl
theorem ps_0 : trX (psX I (I 67) (I 66) (I 68) (F0X I)) (0, I 49) = up2 I 6 8 0 := by
  unfold trX psX fiX F0X
  funext x y
  simp only [up2_at2, upc_at]
  by_cases h1 : x = 1
  · subst h1
    by_cases h2 : y = 0
    · subst h2; simp
    · by_cases h3 : y = 1
      · subst h3; simp
      · simp [h2, h3]
  · by_cases h2 : x = 67
    · subst h2; simp
    · by_cases h3 : x = 66
      · subst h3; simp
      · by_cases h4 : x = 68
        · subst h4; simp
        · by_cases h5 : x = 49
          · subst h5; simp
          · simp [h1, h2, h3, h4, h5, nI_0]
abbrev rtX (I : MI) (p : Nat) : Nat := (I 63 p).toNatClampNeg
def pkX (I : MI) (n m tk fd b np : Nat) : Nat → Pn → Pn := pkF (fun p => askX I 3 5 (I 62 p)) (fun p => bdX I (I 62 p)) (fun p => (askX I 2 5 (I 62 p)).2.1) (fun p q => minX I n m tk fd b (rtX I p) (I 62 p) (nI q) (I 0 11)) (fun st pp p => frG (I 51) (I 31) (I 52) (I 50) (I 63) st pp (rtX I p) np (askX I 2 5 (I 62 p)).2.1) (fun p => (I 64 p).toNatClampNeg)
def paX (I : MI) (n m tk fd b np : Nat) (pp : Nat → Int32) : Nat → Pn := paN (I 65) np (pkX I n m tk fd b np) (I 67, I 66, pp, F0X I, (0, I 49), 0)
def plX (I : MI) (D : MD) (np : Nat) (S : Pn) : Po := fun o J E => ∃ sc' sd', E = ovD D sd' ∧ (3000 ≤ I 1 0 ∧ o = some (.int (-4)) ∧ J = ovX I sc' ∨ ¬ 3000 ≤ I 1 0 ∧ ∃ co, o = some (.int (nI S.2.2.2.2.2)) ∧ J = ovX (trX (psX I S.1 S.2.1 co S.2.2.2.1) S.2.2.2.2.1) sc' ∧ HC (psX I S.1 S.2.1 co S.2.2.2.1) S.2.2.1 np)
theorem hc_step {wt wt' st co co' pp : Nat → Int32} {F F' : Fi} {np p r : Nat} {v pc : Int32} (h : HC (psX I wt st co F) pp np) (hR : RX I) (hrt : ∀ q, q < np → ∃ r, r < 6 ∧ I 63 q = nI r) (hre : I 63 p = nI r) (hr : r < 6) (hc : ∀ j, j < (I 50 r).toNatClampNeg → co' j = 60 * v + I 52 (4 * r + j) * 100 / pc) : HC (psX I wt' (up1 st p v) (kcF p co' co 4) F') (up1 pp p pc) np := by
  intro q hq
  show ¬ up1 st p v q = -1 → ∀ j, j < (I 50 (I 63 q).toNatClampNeg).toNatClampNeg → kcF p co' co 4 (4 * q + j) = 60 * up1 st p v q + I 52 (4 * (I 63 q).toNatClampNeg + j) * 100 / up1 pp p pc q
  intro hs j hj
  have hl : (I 50 (I 63 q).toNatClampNeg).toNatClampNeg ≤ 4 := by
    obtain ⟨r', hr', hre'⟩ := hrt q hq
    rw [hre', nI_clamp (show r' < 2 ^ 31 by omega)]
    obtain ⟨l, hl, hle, -⟩ := hR r' hr'
    rw [hle, nI_clamp (by omega)]
    exact hl
  rw [kcF_at]
  by_cases e : q = p
  · subst e
    rw [if_pos (by omega), show 4 * q + j - 4 * q = j by omega]
    rw [hre, nI_clamp (show r < 2 ^ 31 by omega)] at hj ⊢
    rw [hc j hj]
    unfold up1
    rw [if_pos rfl, if_pos rfl]
  · rw [if_neg (by omega)]
    have e1 : up1 st p v q = st q := by unfold up1; rw [if_neg e]
    have e2 : up1 pp p pc q = pp q := by unfold up1; rw [if_neg e]
    rw [e1] at hs ⊢
    rw [e2]
    exact h q hq hs j hj
set_option maxHeartbeats 1000000 in
theorem c_X_plan {n m tk fd b h ms np : Nat} (hB : KX I n m tk fd b h) (hR : RX I) (hW : WX I) (hms : ms ≤ 40) (hP : shOk (I 42) (I 46) (I 47) ms) (hPX : PX I np ms) (pp : Nat → Int32) (hHC : HC I pp np) (sc : MI) (sd : MD) : Con g SHc (d + 17) 127 [.ref 0] (ovX I sc) (ovD D sd) (plX I D np (paX I n m tk fd b np pp 40)) := by
  refine Con.mk (LV := v_X_plan) k_X_plan (Nat.le_of_ble_eq_true rfl) (fun K hK => ?_)
  have hrt : ∀ q, q < np → ∃ r, r < 6 ∧ I 63 q = nI r := fun q hq => by
    obtain ⟨s', r', f', -, -, z1, z2, -⟩ := hPX.2.2 q hq
    exact ⟨r', z1, z2⟩
  have loop : ¬ 3000 ≤ I 1 0 → ∀ k i sc sd co, i + k = 40 → (paX I n m tk fd b np pp i).2.2.2.2.1.1 ≤ 100 → HC (psX I (paX I n m tk fd b np pp i).1 (paX I n m tk fd b np pp i).2.1 co (paX I n m tk fd b np pp i).2.2.2.1) (paX I n m tk fd b np pp i).2.2.1 np → K 25 [(0, .ref 0), (1, .int (nI (paX I n m tk fd b np pp i).2.2.2.2.2)), (2, .int (nI i))] [] (ovX (trX (psX I (paX I n m tk fd b np pp i).1 (paX I n m tk fd b np pp i).2.1 co (paX I n m tk fd b np pp i).2.2.2.1) (paX I n m tk fd b np pp i).2.2.2.2.1) sc) (ovD D sd) := by
    intro h0 k
    induction k with
    | zero =>
      intro i sc sd co hi hT hc
      have hi : i = 40 := by omega
      subst hi
      generalize paX I n m tk fd b np pp 40 = S at hK hT hc ⊢
      refine hK (25, 70, o_X_plan_1) (List.mem_of_getElem? (i := 1) rfl) _ _ _ _ ?_
      refine And.intro (fun c => ?_) (fun c => ?_)
      · exact ⟨sc, sd, rfl, Or.inr ⟨h0, co, rfl, rfl, hc⟩⟩
      · exact absurd (show nI 40 ≤ nI 40 from nI_le (Nat.le_refl _) (by decide)) c
    | succ k ih =>
      intro i sc sd co hi hT hc
      have go := fun sc sd co => ih (i + 1) sc sd co (by omega)
      rw [show paX I n m tk fd b np pp (i + 1) = paF (I 65) np (pkX I n m tk fd b np) (paX I n m tk fd b np pp i) from rfl] at go
      generalize paX I n m tk fd b np pp i = S at go hT hc ⊢
      have hL : Con g SHc (d + 16) 128 [.ref 11] (ovX (trX (psX I S.1 S.2.1 co S.2.2.2.1) S.2.2.2.2.1) sc) (ovD D sd) (EqP (some (.int (lwF (I 65) S.1 np))) (ovX (trX (psX I S.1 S.2.1 co S.2.2.2.1) S.2.2.2.2.1) sc) (ovD D sd)) := c_X_longest g (d + 16) (ovX (trX (psX I S.1 S.2.1 co S.2.2.2.1) S.2.2.2.2.1) sc) (ovD D sd) np hPX.1 hPX.2.1
      unfold paF at go
      refine hK (25, 70, o_X_plan_1) (List.mem_of_getElem? (i := 1) rfl) _ _ _ _ ?_
      refine And.intro (fun c => ?_) (fun c => ?_)
      · exact absurd (show nI 40 ≤ nI i from c) (nI_ge (by omega) (by omega))
      refine call_eq (hL) ?_
      rcases lwF_c (I 65) S.1 np hPX.1 with ⟨z, -⟩ | ⟨p, hp, z, hw⟩
      · rw [if_pos z] at go
        rw [z]
        refine And.intro (fun c1 => ?_) (fun c1 => ?_)
        · have g9 := go sc sd co hT hc
          rw [nI_succ] at g9
          exact g9
        · exact absurd rfl c1
      · have hz : ¬ lwF (I 65) S.1 np = -1 := by rw [z]; exact nI_neg1 (by have := hPX.1; omega)
        rw [if_neg hz] at go
        rw [z, nI_clamp (show p < 2 ^ 31 by have := hPX.1; omega)] at go
        rw [z]
        refine And.intro (fun c1 => ?_) (fun c1 => ?_)
        · exact absurd c1 (nI_neg1 (by have := hPX.1; omega))
        obtain ⟨s, r, f, hs, hse, hr, hre, hf, hfe⟩ := hPX.2.2 p hp
        have hC : Con g SHc (d + 16) 129 [.ref 11, .int (nI p), .int (I 0 11)] (ovX (trX (psX I S.1 S.2.1 co S.2.2.2.1) S.2.2.2.2.1) sc) (ovD D sd) (stP (psX I S.1 S.2.1 co S.2.2.2.1) D S.2.2.2.2.1 p r f (askX I 3 5 (nI s)) (seF (fun q => minX I n m tk fd b r (nI s) (nI q) (I 0 11)) (frG (I 51) (I 31) (I 52) (I 50) (I 63) S.2.1 S.2.2.1 r np (askX I 2 5 (nI s)).2.1) (cntF f (askX I 3 5 (nI s)).2.1) f) (bdX I (nI s)) (askX I 2 5 (nI s)).2.1) := c_X_settle g d (psX I S.1 S.2.1 co S.2.2.2.1) D hB hR hW hms hP hPX S.2.2.1 hc p s r f hp hs hse hr hre hf hfe (I 0 11) S.2.2.2.2.1 hT sc sd
        have hT' : (pkX I n m tk fd b np p S).2.2.2.2.1.1 ≤ 100 := pkF_T hT
        have e1 : pkX I n m tk fd b np p S = pk1 (askX I 3 5 (nI s)) (seF (fun q => minX I n m tk fd b r (nI s) (nI q) (I 0 11)) (frG (I 51) (I 31) (I 52) (I 50) (I 63) S.2.1 S.2.2.1 r np (askX I 2 5 (nI s)).2.1) (cntF f (askX I 3 5 (nI s)).2.1) f) (bdX I (nI s)) (askX I 2 5 (nI s)).2.1 f p S := by
          show pk1 (askX I 3 5 (I 62 p)) (seF (fun q => minX I n m tk fd b (rtX I p) (I 62 p) (nI q) (I 0 11)) (frG (I 51) (I 31) (I 52) (I 50) (I 63) S.2.1 S.2.2.1 (rtX I p) np (askX I 2 5 (I 62 p)).2.1) (cntF (I 64 p).toNatClampNeg (askX I 3 5 (I 62 p)).2.1) (I 64 p).toNatClampNeg) (bdX I (I 62 p)) (askX I 2 5 (I 62 p)).2.1 (I 64 p).toNatClampNeg p S = _
          rw [show rtX I p = r by unfold rtX; rw [hre, nI_clamp (show r < 2 ^ 31 by omega)], hse, hfe, nI_clamp (show f < 2 ^ 31 by omega)]
        have h1 := seF_1 (fun q => minX I n m tk fd b r (nI s) (nI q) (I 0 11)) (frG (I 51) (I 31) (I 52) (I 50) (I 63) S.2.1 S.2.2.1 r np (askX I 2 5 (nI s)).2.1) (cntF f (askX I 3 5 (nI s)).2.1) f
        have h2 : ∀ k, minX I n m tk fd b r (nI s) (nI k) (I 0 11) = 1 → _ := fun k hk => min_1X I hR hr hk
        generalize seF (fun q => minX I n m tk fd b r (nI s) (nI q) (I 0 11)) (frG (I 51) (I 31) (I 52) (I 50) (I 63) S.2.1 S.2.2.1 r np (askX I 2 5 (nI s)).2.1) (cntF f (askX I 3 5 (nI s)).2.1) f = se at hC e1 h1
        generalize askX I 3 5 (nI s) = r3 at hC e1
        generalize askX I 2 5 (nI s) = r2 at hC e1 h2
        refine call_of hC ?_
        rintro o J E ⟨sc2, sd2, rfl, ⟨hr3, rfl, rfl⟩ | ⟨hr3, hse1, rfl, rfl⟩ | ⟨hr3, hse1, rfl, co', hco', rfl⟩⟩
        · unfold pk1 at e1
          rw [if_pos hr3] at e1
          rw [e1] at go hT'
          rw [ps_w, ps_t]
          refine And.intro (fun c2 => ?_) (fun c2 => ?_)
          · have g9 := go sc2 sd2 co hT' hc
            rw [nI_succ] at g9
            exact g9
          · exact absurd rfl c2
        · unfold pk1 at e1
          rw [if_neg (fun z => z hr3), if_neg hse1] at e1
          rw [e1] at go hT'
          rw [ps_w, ps_ta]
          refine And.intro (fun c2 => ?_) (fun c2 => ?_)
          · have g9 := go sc2 sd2 co hT' hc
            rw [nI_succ] at g9
            exact g9
          · exact absurd rfl c2
        · unfold pk1 at e1
          rw [if_neg (fun z => z hr3), if_pos hse1] at e1
          rw [e1] at go hT'
          rw [ps_w, ps_s, ps_c]
          refine And.intro (fun c2 => ?_) (fun c2 => ?_)
          · exact absurd c2 (by decide)
          · have h3 := h1 hse1
            have g9 := go sc2 sd2 (kcF p co' co 4) hT' (hc_step I hc hR hrt hre hr (fun j hj => by rw [hco' j hj]; exact h2 _ h3.2.1 j hj))
            rw [nI_succ, nI_succ] at g9
            exact g9
  refine hK (0, 25, o_X_plan_0) (List.mem_of_getElem? (i := 0) rfl) _ _ _ _ ?_
  refine call_eq (c_X_areSpent g (d + 16) (ovX I sc) (ovD D sd)) ?_
  refine And.intro (fun c => ?_) (fun c => ?_)
  · have c0 : ¬ 3000 ≤ I 1 0 := of_decide_eq_false (bI_0.mp c)
    have go := loop c0 40 0 sc sd (I 68) (by omega) (Nat.zero_le _) (by
      intro q hq hs j hj
      exact hHC q hq hs j hj)
    rw [show paX I n m tk fd b np pp 0 = (I 67, I 66, pp, F0X I, (0, I 49), 0) from rfl] at go
    have go : K 25 [(0, .ref 0), (1, .int 0), (2, .int 0)] [] (ovX (trX (psX I (I 67) (I 66) (I 68) (F0X I)) (0, I 49)) sc) (ovD D sd) := go
    rw [ps_0, ← ov_n2 _ _ _ _ _ (by rfl)] at go
    exact go
  · exact ⟨sc, sd, rfl, Or.inl ⟨of_decide_eq_true (bI_n0.mp c), rfl, rfl⟩⟩
end S79
