/-! plan (reference) -/
section S80
variable (g : Gp) (d : Nat) (I : MI) (D : MD)
def psM (I : MI) (wt st pp : Nat → Int32) (F : Fi) : MI := fiM (upc (upc (upc I 126 wt) 128 st) 129 pp) F
theorem psm_w (wt st pp : Nat → Int32) (F : Fi) (p : Nat) (v : Int32) : up2 (psM I wt st pp F) 126 p v = psM I (up1 wt p v) st pp F := by
  unfold psM fiM
  funext x y
  simp only [up2_at2, upc_at]
  by_cases h1 : x = 126
  · subst h1; simp [up1]
  · simp [h1]
theorem psm_s (wt st pp : Nat → Int32) (F : Fi) (p : Nat) (v : Int32) : up2 (psM I wt st pp F) 128 p v = psM I wt (up1 st p v) pp F := by
  unfold psM fiM
  funext x y
  simp only [up2_at2, upc_at]
  by_cases h1 : x = 128
  · subst h1; simp [up1]
  · simp [h1]
theorem psm_p (wt st pp : Nat → Int32) (F : Fi) (p : Nat) (v : Int32) : up2 (psM I wt st pp F) 129 p v = psM I wt st (up1 pp p v) F := by
  unfold psM fiM
  funext x y
  simp only [up2_at2, upc_at]
  by_cases h1 : x = 129
  · subst h1; simp [up1]
  · simp [h1]
theorem psm_t (wt st pp : Nat → Int32) (F : Fi) (T : Tr) (f : Int32) : tellM f (trM (psM I wt st pp F) T) = trM (psM I wt st pp (F.1 + 1, f)) T := by
  unfold tellM trM psM fiM
  funext x y
  simp only [up2_at2, upc_at]
  by_cases h1 : x = 12
  · subst h1
    by_cases h2 : y = 1
    · subst h2; simp
    · by_cases h3 : y = 2
      · subst h3; simp
      · simp [h2, h3]
  · simp [h1]
theorem psm_ta (wt st pp : Nat → Int32) (F : Fi) (T : Tr) (a : Int32) : tellAM a (trM (psM I wt st pp F) T) = trM (psM I wt st pp (telF a F)) T := by
  unfold tellAM telF
  split
  · rw [psm_t]
  · rfl
theorem psm_0 : trM (psM I (I 126) (I 128) (I 129) (F0M I)) (0, I 109) = up2 I 12 57 0 := by
  unfold trM psM fiM F0M
  funext x y
  simp only [up2_at2, upc_at]
  by_cases h1 : x = 12
  · subst h1
    by_cases h2 : y = 1
    · subst h2; simp
    · by_cases h3 : y = 2
      · subst h3; simp
      · simp [h2, h3, nI_0]
  · by_cases h2 : x = 126
    · subst h2; simp
    · by_cases h3 : x = 128
      · subst h3; simp
      · by_cases h4 : x = 129
        · subst h4; simp
        · by_cases h5 : x = 109
          · subst h5; simp
          · simp [h1, h2, h3, h4, h5]
abbrev rtM (I : MI) (p : Nat) : Nat := (I 124 p).toNatClampNeg
def pkM (I : MI) (n m tk fd b np : Nat) : Nat → Pn → Pn := pkF (fun p => askM I 3 5 (I 123 p)) (fun p => bdM I (I 123 p)) (fun p => (askM I 2 5 (I 123 p)).2.1) (fun p q => minM I n m tk fd b (rtM I p) (I 123 p) (nI q)) (fun st pp p => frG (I 118) (I 92) (I 119) (I 117) (I 124) st pp (rtM I p) np (askM I 2 5 (I 123 p)).2.1) (fun p => (I 125 p).toNatClampNeg)
def paM (I : MI) (n m tk fd b np : Nat) : Nat → Pn := paN (I 127) np (pkM I n m tk fd b np) (I 126, I 128, I 129, F0M I, (0, I 109), 0)
/-- what waits has no start, and what starts has a pace -/
def WS (np : Nat) (wt st pp : Nat → Int32) : Prop := ∀ p, p < np → (¬ wt p = 0 → st p = -1) ∧ (¬ st p = -1 → ¬ pp p = 0)
def plM (I : MI) (D : MD) (np : Nat) (S : Pn) : Po := fun o J E => ∃ sc' sd', E = ovD D sd' ∧ (3000 ≤ I 12 2 ∧ o = some (.int (-4)) ∧ J = ovX I sc' ∨ ¬ 3000 ≤ I 12 2 ∧ o = some (.int (nI S.2.2.2.2.2)) ∧ J = ovX (trM (psM I S.1 S.2.1 S.2.2.1 S.2.2.2.1) S.2.2.2.2.1) sc' ∧ WS np S.1 S.2.1 S.2.2.1 ∧ S.2.2.2.2.1.1 ≤ 100)
theorem cntF_le (f : Nat) (pat : Int32) : cntF f pat ≤ 43200 := by
  have := enE_le f pat
  unfold cntF
  omega
set_option maxHeartbeats 1000000 in
theorem c_M_plan {n m tk fd b h ms np : Nat} (hB : KM I n m tk fd b h) (hR : RM I) (hW : WM I) (hL : LKM I) (hms : ms ≤ 40) (rk : Nat → Nat) (hP : rkOk (I 103) (fun j => I 107 (2 * j)) (fun j => I 107 (2 * j + 1)) rk ms) (hPM : PM I np ms) (hWS : WS np (I 126) (I 128) (I 129)) (sc : MI) (sd : MD) : Con g SHc (d + 16) 238 [.ref 12] (ovX I sc) (ovD D sd) (plM I D np (paM I n m tk fd b np 40)) := by
  refine Con.mk (LV := v_M_plan) k_M_plan (Nat.le_of_ble_eq_true rfl) (fun K hK => ?_)
  have hn40 := hPM.1
  obtain ⟨Z, hZ⟩ : ∃ Z, Z = paM I n m tk fd b np 40 := ⟨_, rfl⟩
  rw [← hZ] at hK
  have fin : ∀ S : Pn, ∀ sc sd, Z = S → ¬ 3000 ≤ I 12 2 → WS np S.1 S.2.1 S.2.2.1 → S.2.2.2.2.1.1 ≤ 100 → K 122 [(1, .int (nI S.2.2.2.2.2))] [] (ovX (trM (psM I S.1 S.2.1 S.2.2.1 S.2.2.2.1) S.2.2.2.2.1) sc) (ovD D sd) := by
    intro S sc sd hS h0 hw hT
    subst hS
    refine hK (122, 124, o_M_plan_3) (List.mem_of_getElem? (i := 3) rfl) _ _ _ _ ?_
    exact ⟨sc, sd, rfl, Or.inr ⟨h0, rfl, rfl, hw, hT⟩⟩
  have body : ∀ S : Pn, ∀ sc sd, ¬ 3000 ≤ I 12 2 → WS np S.1 S.2.1 S.2.2.1 → S.2.2.2.2.1.1 ≤ 100 → (lwF (I 127) S.1 np = -1 → Z = S) → (∀ p, p < np → ¬ S.1 p = 0 → lwF (I 127) S.1 np = nI p → ∀ sc sd, WS np (pkM I n m tk fd b np p S).1 (pkM I n m tk fd b np p S).2.1 (pkM I n m tk fd b np p S).2.2.1 → (pkM I n m tk fd b np p S).2.2.2.2.1.1 ≤ 100 → K 19 [(0, .ref 12), (1, .int (nI (pkM I n m tk fd b np p S).2.2.2.2.2)), (2, .int 1)] [] (ovX (trM (psM I (pkM I n m tk fd b np p S).1 (pkM I n m tk fd b np p S).2.1 (pkM I n m tk fd b np p S).2.2.1 (pkM I n m tk fd b np p S).2.2.2.1) (pkM I n m tk fd b np p S).2.2.2.2.1) sc) (ovD D sd)) → K 19 [(0, .ref 12), (1, .int (nI S.2.2.2.2.2)), (2, .int 1)] [] (ovX (trM (psM I S.1 S.2.1 S.2.2.1 S.2.2.2.1) S.2.2.2.2.1) sc) (ovD D sd) := by
    intro S sc sd h0 hw hT hz go
    have inner : ∀ k i, i + k = np → K 28 [(0, .ref 12), (1, .int (nI S.2.2.2.2.2)), (3, .int (lwF (I 127) S.1 i)), (4, .int (nI i))] [] (ovX (trM (psM I S.1 S.2.1 S.2.2.1 S.2.2.2.1) S.2.2.2.2.1) sc) (ovD D sd) := by
      intro k
      induction k with
      | zero =>
        intro i hi
        have hi : i = np := by omega
        subst hi
        refine hK (28, 122, o_M_plan_2) (List.mem_of_getElem? (i := 2) rfl) _ _ _ _ ?_
        refine And.intro (fun c => ?_) (fun c => ?_)
        · rcases lwF_c (I 127) S.1 i hPM.1 with ⟨z, -⟩ | ⟨p, hp, z, hwp⟩
          · have hzs := hz z
            rw [z]
            refine And.intro (fun c1 => ?_) (fun c1 => ?_)
            · refine And.intro (fun c2 => ?_) (fun c2 => ?_)
              · refine hK (19, 28, o_M_plan_1) (List.mem_of_getElem? (i := 1) rfl) _ _ _ _ ?_
                refine And.intro (fun c3 => ?_) (fun c3 => ?_)
                · exact fin S sc sd hzs h0 hw hT
                · exact absurd rfl c3
              · exact absurd rfl c2
            · exact absurd rfl c1
          · have go := go p hp hwp z
            rw [z]
            obtain ⟨s, r, f, hs, hse, hr, hre, hf, hfe⟩ := hPM.2.2 p hp
            have hp40 : inn (nI p) 40 := inn_nI (by omega) (by decide)
            have pcl : (nI p).toNatClampNeg = p := nI_clamp (by omega)
            have hC : Con g SHc (d + 15) 239 [.ref 12, .int (nI p)] (ovX (trM (psM I S.1 S.2.1 S.2.2.1 S.2.2.2.1) S.2.2.2.2.1) sc) (ovD D sd) (plP (psM I S.1 S.2.1 S.2.2.1 S.2.2.2.1) D S.2.2.2.2.1 p f (askM I 3 5 (nI s)) (seF (fun q => minM I n m tk fd b r (nI s) (nI q)) (frG (I 118) (I 92) (I 119) (I 117) (I 124) S.2.1 S.2.2.1 r i (askM I 2 5 (nI s)).2.1) (cntF f (askM I 3 5 (nI s)).2.1) f) (bdM I (nI s)) (askM I 2 5 (nI s)).2.1) := c_M_plans g d (psM I S.1 S.2.1 S.2.2.1 S.2.2.2.1) D hB hR hW hL hms rk hP hPM (fun p hp => (hw p hp).2) p s r f hp hs hse hr hre hf hfe S.2.2.2.2.1 hT sc sd
            have hT' : (pkM I n m tk fd b i p S).2.2.2.2.1.1 ≤ 100 := pkF_T hT
            have e1 : pkM I n m tk fd b i p S = pk1 (askM I 3 5 (nI s)) (seF (fun q => minM I n m tk fd b r (nI s) (nI q)) (frG (I 118) (I 92) (I 119) (I 117) (I 124) S.2.1 S.2.2.1 r i (askM I 2 5 (nI s)).2.1) (cntF f (askM I 3 5 (nI s)).2.1) f) (bdM I (nI s)) (askM I 2 5 (nI s)).2.1 f p S := by
              show pk1 (askM I 3 5 (I 123 p)) (seF (fun q => minM I n m tk fd b (rtM I p) (I 123 p) (nI q)) (frG (I 118) (I 92) (I 119) (I 117) (I 124) S.2.1 S.2.2.1 (rtM I p) i (askM I 2 5 (I 123 p)).2.1) (cntF (I 125 p).toNatClampNeg (askM I 3 5 (I 123 p)).2.1) (I 125 p).toNatClampNeg) (bdM I (I 123 p)) (askM I 2 5 (I 123 p)).2.1 (I 125 p).toNatClampNeg p S = _
              rw [show rtM I p = r by unfold rtM; rw [hre, nI_clamp (show r < 2 ^ 31 by omega)], hse, hfe, nI_clamp (show f < 2 ^ 31 by omega)]
            have h1 := seF_1 (fun q => minM I n m tk fd b r (nI s) (nI q)) (frG (I 118) (I 92) (I 119) (I 117) (I 124) S.2.1 S.2.2.1 r i (askM I 2 5 (nI s)).2.1) (cntF f (askM I 3 5 (nI s)).2.1) f
            have hcl := cntF_le f (askM I 3 5 (nI s)).2.1
            generalize seF (fun q => minM I n m tk fd b r (nI s) (nI q)) (frG (I 118) (I 92) (I 119) (I 117) (I 124) S.2.1 S.2.2.1 r i (askM I 2 5 (nI s)).2.1) (cntF f (askM I 3 5 (nI s)).2.1) f = se at hC e1 h1
            generalize askM I 3 5 (nI s) = r3 at hC e1 h1 hcl
            generalize askM I 2 5 (nI s) = r2 at hC e1
            have hup : ∀ q : Nat, ¬ q = p → ∀ (G : Nat → Int32) v, up1 G p v q = G q := fun q hq G v => by unfold up1; rw [if_neg hq]
            have hup0 : ∀ (G : Nat → Int32) v, up1 G p v p = v := fun G v => by unfold up1; rw [if_pos rfl]
            have w0 : WS i (up1 S.1 p 0) S.2.1 S.2.2.1 := fun q hq => ⟨fun y => by
              by_cases e : q = p
              · subst e
                rw [hup0] at y
                exact absurd rfl y
              · rw [hup q e] at y
                exact (hw q hq).1 y, (hw q hq).2⟩
            have hsp : S.2.1 p = -1 := (hw p hp).1 hwp
            refine And.intro (fun c1 => ?_) (fun c1 => ?_)
            · exact absurd c1 (nI_neg1 (by omega))
            refine And.intro (fun c2 => ?_) (fun c2 => ?_)
            · exact absurd c2 (by decide)
            refine call_of hC ?_
            rintro o J E ⟨sc2, sd2, rfl, rfl, ⟨hr3, rfl⟩ | ⟨hr3, hse1, rfl⟩ | ⟨hr3, hse1, hpc, rfl⟩⟩
            · unfold pk1 at e1
              rw [if_pos hr3] at e1
              rw [e1] at go hT'
              rw [psm_w, psm_t]
              refine And.intro (hp40) ?_
              refine And.intro (fun c3 => ?_) (fun c3 => ?_)
              · exact go sc2 sd2 w0 hT'
              · rw [pcl] at c3
                exact absurd hsp c3
            · unfold pk1 at e1
              rw [if_neg (fun z => z hr3), if_neg hse1] at e1
              rw [e1] at go hT'
              rw [psm_w, psm_ta]
              refine And.intro (hp40) ?_
              refine And.intro (fun c3 => ?_) (fun c3 => ?_)
              · exact go sc2 sd2 w0 hT'
              · rw [pcl] at c3
                exact absurd hsp c3
            · unfold pk1 at e1
              rw [if_neg (fun z => z hr3), if_pos hse1] at e1
              rw [e1] at go hT'
              rw [psm_w, psm_s, psm_p]
              refine And.intro (hp40) ?_
              have h3 := h1 hse1
              refine And.intro (fun c3 => ?_) (fun c3 => ?_)
              · rw [pcl] at c3
                have c3 : up1 S.2.1 p (nI (f + se.1 - 1)) p = -1 := c3
                rw [hup0] at c3
                exact absurd c3 (nI_neg1 (by omega))
              · have g9 := go sc2 sd2 (fun q hq => by
                  by_cases e : q = p
                  · subst e
                    show (¬ up1 S.1 q 0 q = 0 → up1 S.2.1 q (nI (f + se.1 - 1)) q = -1) ∧ (¬ up1 S.2.1 q (nI (f + se.1 - 1)) q = -1 → ¬ up1 S.2.2.1 q r2.2.1 q = 0)
                    rw [hup0, hup0, hup0]
                    refine ⟨fun y => absurd rfl y, fun _ y => hpc ?_⟩
                    rw [y]
                    decide
                  · show (¬ up1 S.1 p 0 q = 0 → up1 S.2.1 p (nI (f + se.1 - 1)) q = -1) ∧ (¬ up1 S.2.1 p (nI (f + se.1 - 1)) q = -1 → ¬ up1 S.2.2.1 p r2.2.1 q = 0)
                    rw [hup q e, hup q e, hup q e]
                    exact hw q hq) hT'
                rw [nI_succ] at g9
                exact g9
        · have c : ¬ I 12 78 ≤ nI i := c
          rw [hPM.2.1] at c
          exact absurd (nI_le (Nat.le_refl _) (by omega)) c
      | succ k ih =>
        intro i hi
        have hi40 : inn (nI i) 40 := inn_nI (by omega) (by decide)
        have ic : (nI i).toNatClampNeg = i := nI_clamp (by omega)
        have gi := ih (i + 1) (by omega)
        rw [nI_succ, show lwF (I 127) S.1 (i + 1) = if ¬ S.1 i = 0 ∧ (lwF (I 127) S.1 i = -1 ∨ I 127 i < I 127 (lwF (I 127) S.1 i).toNatClampNeg) then nI i else lwF (I 127) S.1 i from rfl] at gi
        have hc := lwF_c (I 127) S.1 i (by omega)
        have hin : ¬ lwF (I 127) S.1 i = -1 → inn (lwF (I 127) S.1 i) 40 := by
          intro c2
          rcases hc with ⟨z, -⟩ | ⟨q, hq, z, -⟩
          · exact absurd z c2
          · rw [z]; exact inn_nI (by omega) (by decide)
        refine hK (28, 122, o_M_plan_2) (List.mem_of_getElem? (i := 2) rfl) _ _ _ _ ?_
        refine And.intro (fun c => ?_) (fun c => ?_)
        · have c : I 12 78 ≤ nI i := c
          rw [hPM.2.1] at c
          exact absurd c (nI_ge (by omega) (by omega))
        refine And.intro (hi40) ?_
        refine And.intro (fun c1 => ?_) (fun c1 => ?_)
        · rw [ic] at c1
          rw [if_neg (fun z => z.1 c1)] at gi
          exact gi
        rw [ic] at c1
        refine And.intro (fun c2 => ?_) (fun c2 => ?_)
        · rw [if_pos ⟨c1, Or.inl c2⟩] at gi
          exact gi
        refine And.intro (hi40) ?_
        refine And.intro (hin c2) ?_
        refine And.intro (fun c3 => ?_) (fun c3 => ?_)
        · rw [ic] at c3
          rw [if_neg (fun z => z.2.elim c2 (fun y => absurd y (i32_nlt.mpr c3)))] at gi
          exact gi
        · rw [ic] at c3
          rw [if_pos ⟨c1, Or.inr (i32_nle.mp c3)⟩] at gi
          exact gi
    refine hK (19, 28, o_M_plan_1) (List.mem_of_getElem? (i := 1) rfl) _ _ _ _ ?_
    refine And.intro (fun c => ?_) (fun c => ?_)
    · exact absurd c (by decide)
    · exact inner np 0 (by omega)
  have loop : ¬ 3000 ≤ I 12 2 → ∀ k i sc sd, i + k = 40 → cwF (paM I n m tk fd b np i).1 np + i ≤ 40 → WS np (paM I n m tk fd b np i).1 (paM I n m tk fd b np i).2.1 (paM I n m tk fd b np i).2.2.1 → (paM I n m tk fd b np i).2.2.2.2.1.1 ≤ 100 → K 19 [(0, .ref 12), (1, .int (nI (paM I n m tk fd b np i).2.2.2.2.2)), (2, .int 1)] [] (ovX (trM (psM I (paM I n m tk fd b np i).1 (paM I n m tk fd b np i).2.1 (paM I n m tk fd b np i).2.2.1 (paM I n m tk fd b np i).2.2.2.1) (paM I n m tk fd b np i).2.2.2.2.1) sc) (ovD D sd) := by
    intro h0 k
    induction k with
    | zero =>
      intro i sc sd hi hcw hw hT
      have hi : i = 40 := by omega
      subst hi
      refine body (paM I n m tk fd b np 40) sc sd h0 hw hT (fun _ => hZ) ?_
      intro p hp hwp _
      have := cwF_dn (paM I n m tk fd b np 40).1 p hwp np hp
      omega
    | succ k ih =>
      intro i sc sd hi hcw hw hT
      refine body (paM I n m tk fd b np i) sc sd h0 hw hT (fun z => ?_) ?_
      · rw [hZ, show 40 = i + (k + 1) by omega]
        exact paN_stop z (k + 1)
      · intro p hp hwp hz sc sd hw' hT'
        have e1 : paM I n m tk fd b np (i + 1) = pkM I n m tk fd b np p (paM I n m tk fd b np i) := by
          show paF (I 127) np (pkM I n m tk fd b np) (paM I n m tk fd b np i) = _
          unfold paF
          rw [hz, if_neg (nI_neg1 (by omega)), nI_clamp (show p < 2 ^ 31 by omega)]
        have e2 : (pkM I n m tk fd b np p (paM I n m tk fd b np i)).1 = up1 (paM I n m tk fd b np i).1 p 0 := pkF_1 _ _ _ _ _ _ _ _
        have e3 := cwF_dn (paM I n m tk fd b np i).1 p hwp np hp
        have g9 := ih (i + 1) sc sd (by omega)
        rw [e1] at g9
        exact g9 (by rw [e2]; omega) hw' hT'
  refine hK (0, 19, o_M_plan_0) (List.mem_of_getElem? (i := 0) rfl) _ _ _ _ ?_
  refine call_eq (c_M_isFull g (d + 15) (ovX I sc) (ovD D sd)) ?_
  refine And.intro (fun c => ?_) (fun c => ?_)
  · have c0 : ¬ 3000 ≤ I 12 2 := of_decide_eq_false (bI_0.mp c)
    have hcw := cwF_le (I 126) np
    have go := loop c0 40 0 sc sd (by omega) (show cwF (I 126) np + 0 ≤ 40 by omega) hWS (Nat.zero_le _)
    rw [show paM I n m tk fd b np 0 = (I 126, I 128, I 129, F0M I, (0, I 109), 0) from rfl] at go
    have go : K 19 [(0, .ref 12), (1, .int 0), (2, .int 1)] [] (ovX (trM (psM I (I 126) (I 128) (I 129) (F0M I)) (0, I 109)) sc) (ovD D sd) := go
    rw [psm_0, ← ov_n2 _ _ _ _ _ (by rfl)] at go
    exact go
  · exact ⟨sc, sd, rfl, Or.inl ⟨of_decide_eq_true (bI_n0.mp c), rfl, rfl⟩⟩
end S80
