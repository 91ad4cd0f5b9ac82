/-! pass (reference) -/
section S82
variable (g : Gp) (d : Nat) (I : MI) (D : MD)
def hdM (I : MI) (H : Nat → Int32) (c : Nat) : MI := up2 (upc I 131 H) 12 89 (nI c)
theorem hm_s (H : Nat → Int32) (c q : Nat) : up2 (up2 (hdM I H c) 131 q 1) 12 89 (nI c + 1) = hdM I (up1 H q 1) (c + 1) := by
  unfold hdM
  rw [← nI_succ]
  funext x y
  simp only [up2_at2, upc_at]
  by_cases h1 : x = 131
  · subst h1; simp [up1]
  · by_cases h2 : x = 12
    · subst h2
      by_cases h4 : y = 89
      · subst h4; simp
      · simp [h4]
    · simp [h1, h2]
def hlM (I : MI) (c : Nat) : MI := up2 (up2 I 12 88 (I 12 88 + 1)) 12 89 (nI c)
def gtM (I : MI) (s : Int32) (r : Nat) : Int32 × Nat × List Int32 := psF (askM I 0 5 s) (askM I 2 5 s) (askM I 3 5 s) (hlF (I 118) (I 92) r (I 117 r).toNatClampNeg 0 (fun _ => 0) 0)
theorem trM_s (T : Tr) (sc : MI) (H : Nat → Int32) (c q : Nat) : up2 (up2 (ovX (trM (hdM I H c) T) sc) 131 q 1) 12 89 (nI c + 1) = ovX (trM (hdM I (up1 H q 1) (c + 1)) T) sc := by
  rw [ov_n2 _ _ _ _ _ (by rfl), ov_n2 _ _ _ _ _ (by rfl), ← hm_s]
  congr 1
  unfold trM
  funext x y
  simp only [up2_at2, upc_at]
  by_cases h1 : x = 131
  · subst h1; simp
  · by_cases h2 : x = 12
    · subst h2
      by_cases h4 : y = 89
      · subst h4; simp
      · simp [h4]
    · simp [h1, h2]
set_option maxHeartbeats 1000000 in
theorem c_M_goes {ms : Nat} (hR : RM I) (hL : LKM I) (hms : ms ≤ 40) (rk : Nat → Nat) (hP : rkOk (I 103) (fun j => I 107 (2 * j)) (fun j => I 107 (2 * j + 1)) rk ms) (s r : Nat) (hs : s < ms) (hr : r < 6) (T : Tr) (hT : T.1 ≤ 100) (sc : MI) : Con g SHc (d + 5) 248 [.ref 12, .int (nI s), .int (nI r)] (ovX (trM (hdM I (fun _ => 0) 0) T) sc) D (fun o J E => ∃ sc' H', (∀ q, 16 ≤ q → H' q = 0) ∧ E = D ∧ o = some (.int (gtM I (nI s) r).1) ∧ J = ovX (trM (hdM I H' (gtM I (nI s) r).2.1) (begsT T (gtM I (nI s) r).2.2)) sc') := by
  refine Con.mk (LV := v_M_goes) k_M_goes (Nat.le_of_ble_eq_true rfl) (fun K hK => ?_)
  obtain ⟨l, hl, hle, hlg⟩ := hR r hr
  have hlc : (I 117 r).toNatClampNeg = l := by rw [hle]; exact nI_clamp (by omega)
  have hrc : (nI r).toNatClampNeg = r := nI_clamp (by omega)
  have hr6 : inn (nI r) 6 := inn_nI hr (by decide)
  have hA : ∀ w H c T' sc', T'.1 ≤ 100 → Con g SHc (d + 4) 203 [.ref 12, .int (nI s), .int w] (ovX (trM (hdM I H c) T') sc') D (amP (hdM I H c) D T' sc' (askM I w 5 (nI s))) := fun w H c T' sc' hT' => c_M_asks g d (hdM I H c) D ms hms rk hP w (nI s) (Or.inr ⟨s, hs, rfl, by have := (hP s hs).1; omega⟩) T' hT' sc'
  have a0 := hA 0
  have a2 := hA 2
  have a3 := hA 3
  have hT1 : (begsT T (askM I 0 5 (nI s)).2.2).1 ≤ 100 := begsT_le _ hT
  have hT2 : (begsT (begsT T (askM I 0 5 (nI s)).2.2) (askM I 2 5 (nI s)).2.2).1 ≤ 100 := begsT_le _ hT1
  unfold gtM at hK
  rw [hlc] at hK
  generalize askM I 0 5 (nI s) = rN at hK a0 hT1 hT2
  generalize askM I 2 5 (nI s) = rP at hK a2 hT2
  generalize askM I 3 5 (nI s) = rT at hK a3
  obtain ⟨V, hV⟩ : ∃ V, V = hlF (I 118) (I 92) r l 0 (fun _ => 0) 0 := ⟨_, rfl⟩
  rw [← hV] at hK
  obtain ⟨W, hW⟩ : ∃ W, W = psF rN rP rT V := ⟨_, rfl⟩
  rw [← hW] at hK
  have stop : ∀ (f : Int32) (k i c : Nat) H J sc, ¬ f = 0 → J = hdM I H W.2.1 → f = W.1 → (∀ q, 16 ≤ q → H q = 0) → K 13 [(0, .ref 12), (1, .int (nI s)), (2, .int (nI r)), (3, .int f), (4, .int (nI c)), (5, .int (nI i))] [] (ovX (trM J (begsT T W.2.2)) sc) D := by
    intro f k i c H J sc hf hJ hfW hH
    subst hJ
    subst hfW
    refine hK (13, 146, o_M_goes_1) (List.mem_of_getElem? (i := 1) rfl) _ _ _ _ ?_
    refine And.intro (hr6) ?_
    refine And.intro (fun c1 => ?_) (fun c1 => ?_)
    · refine And.intro (fun c2 => ?_) (fun c2 => ?_)
      · refine And.intro (fun c3 => ?_) (fun c3 => ?_)
        · exact ⟨sc, H, hH, rfl, rfl, rfl⟩
        · exact absurd c3 hf
      · exact absurd c2 hf
    · refine And.intro (fun c2 => ?_) (fun c2 => ?_)
      · refine And.intro (fun c3 => ?_) (fun c3 => ?_)
        · refine And.intro (fun c4 => ?_) (fun c4 => ?_)
          · exact ⟨sc, H, hH, rfl, rfl, rfl⟩
          · exact absurd c4 hf
        · exact absurd c3 hf
      · exact absurd c2 hf
  have loop : rN.1 = 0 → ∀ k i H c sc, i + k = l → hlF (I 118) (I 92) r k i H c = V → (∀ q, 16 ≤ q → H q = 0) → c ≤ i → K 13 [(0, .ref 12), (1, .int (nI s)), (2, .int (nI r)), (3, .int 0), (4, .int (nI c)), (5, .int (nI i))] [] (ovX (trM (hdM I H c) (begsT T rN.2.2)) sc) D := by
    intro hN0 k
    induction k with
    | zero =>
      intro i H c sc hi hv hH hc
      have hv : (true, c) = V := hv
      have hi : i = l := by omega
      subst hi
      have eW : W = ((if ¬ rP.1 = 0 then rP.1 else rT.1), c, rN.2.2 ++ (if ¬ rP.1 = 0 then rP.2.2 else rP.2.2 ++ rT.2.2)) := by
        rw [hW, ← hv]
        unfold psF
        rw [if_neg (fun z => z hN0), if_neg (show ¬ true = false by decide)]
        by_cases y : rP.1 = 0
        · rw [if_neg (fun z => z y), if_neg (fun z => z y), if_neg (fun z => z y)]
        · rw [if_pos y, if_pos y, if_pos y]
      refine hK (13, 146, o_M_goes_1) (List.mem_of_getElem? (i := 1) rfl) _ _ _ _ ?_
      refine And.intro (hr6) ?_
      refine And.intro (fun cc => ?_) (fun cc => ?_)
      · refine And.intro (fun c2 => ?_) (fun c2 => ?_)
        · exact absurd rfl c2
        refine call_of (a2 H c _ _ hT1) ?_
        rintro o J E ⟨rfl, rfl, sc2, rfl, -⟩
        refine And.intro (fun c3 => ?_) (fun c3 => ?_)
        · have eW : W = (rP.1, c, rN.2.2 ++ rP.2.2) := by
            rw [eW, if_pos c3, if_pos c3]
          rw [eW]
          refine ⟨sc2, H, hH, rfl, rfl, ?_⟩
          rw [begsT_app]
        · have c4 : ¬ ¬ rP.1 = 0 := fun z => z c3
          refine call_of (a3 H c _ _ hT2) ?_
          rintro o J E ⟨rfl, rfl, sc3, rfl, -⟩
          rw [eW, if_neg c4, if_neg c4]
          refine ⟨sc3, H, hH, rfl, rfl, ?_⟩
          rw [begsT_app, begsT_app]
      · rw [hrc, show ovX (trM (hdM I H c) (begsT T rN.2.2)) sc 117 r = nI i from hle] at cc
        exact absurd (nI_le (Nat.le_refl _) (by omega)) cc
    | succ k ih =>
      intro i H c sc hi hv hH hc
      obtain ⟨q, s', a, hq, hqe, -⟩ := hlg i (by omega)
      have e3 : (4 : Int32) * nI r + nI i = nI (4 * r + i) := by rw [show (4 : Int32) = nI 4 from rfl, pk_mul, nI_add]
      have p24 : inn ((4 : Int32) * nI r + nI i) 24 := by rw [e3]; exact inn_nI (by omega) (by decide)
      have pcl : ((4 : Int32) * nI r + nI i).toNatClampNeg = 4 * r + i := by rw [e3]; exact nI_clamp (by omega)
      have hq16 : inn (nI q) 16 := inn_nI hq (by decide)
      have qc : (nI q).toNatClampNeg = q := nI_clamp (by omega)
      have hL0 := hL q hq
      have nxt : hlF (I 118) (I 92) r (k + 1) i H c = if I 92 (I 118 (4 * r + i)).toNatClampNeg = 0 then hlF (I 118) (I 92) r k (i + 1) H c else if H (I 118 (4 * r + i)).toNatClampNeg = 0 then hlF (I 118) (I 92) r k (i + 1) (up1 H (I 118 (4 * r + i)).toNatClampNeg 1) (c + 1) else (false, c) := rfl
      rw [nxt, hqe, qc] at hv
      have lz : I 92 q ≤ 0 → I 92 q = 0 := fun z => by
        rw [i32_le, show ((0 : Int32)).toInt = 0 by decide] at z
        exact Int32.toInt_inj.mp (by rw [show ((0 : Int32)).toInt = 0 by decide]; omega)
      have next : I 92 q = 0 → K 13 [(0, .ref 12), (1, .int (nI s)), (2, .int (nI r)), (3, .int 0), (4, .int (nI c)), (5, .int (nI i + 1))] [] (ovX (trM (hdM I H c) (begsT T rN.2.2)) sc) D := by
        intro z
        rw [if_pos z] at hv
        have go := ih (i + 1) H c sc (by omega) hv hH (by omega)
        rw [nI_succ] at go
        exact go
      have take : ¬ I 92 q = 0 → H q = 0 → K 13 [(0, .ref 12), (1, .int (nI s)), (2, .int (nI r)), (3, .int 0), (4, .int (nI c + 1)), (5, .int (nI i + 1))] [] (up2 (up2 (ovX (trM (hdM I H c) (begsT T rN.2.2)) sc) 131 q 1) 12 89 (nI c + 1)) D := by
        intro z y
        rw [if_neg z, if_pos y] at hv
        have go := ih (i + 1) (up1 H q 1) (c + 1) sc (by omega) hv (fun x hx => by unfold up1; rw [if_neg (by omega)]; exact hH x hx) (by omega)
        rw [nI_succ, nI_succ, ← trM_s] at go
        exact go
      refine hK (13, 146, o_M_goes_1) (List.mem_of_getElem? (i := 1) rfl) _ _ _ _ ?_
      refine And.intro (hr6) ?_
      refine And.intro (fun cc => ?_) (fun cc => ?_)
      · rw [hrc, show ovX (trM (hdM I H c) (begsT T rN.2.2)) sc 117 r = nI l from hle] at cc
        exact absurd cc (nI_ge (by omega) (by omega))
      refine And.intro (fun c0 => ?_) (fun c0 => ?_)
      · exact absurd rfl c0
      refine And.intro (p24) ?_
      rw [pcl, show ovX (trM (hdM I H c) (begsT T rN.2.2)) sc 118 (4 * r + i) = nI q from hqe]
      refine And.intro (hq16) ?_
      refine And.intro (fun c1 => ?_) (fun c1 => ?_)
      · rw [qc] at c1
        have c1 : I 92 q ≤ 0 := c1
        have z := lz c1
        refine And.intro (hq16) ?_
        refine And.intro (fun c3 => ?_) (fun c3 => ?_)
        · exact next z
        · rw [qc] at c3
          exact absurd c1 c3
      rw [qc] at c1
      have c1 : ¬ I 92 q ≤ 0 := c1
      have z : ¬ I 92 q = 0 := fun y => c1 (by rw [y]; decide)
      refine And.intro (hq16) ?_
      refine And.intro (fun c2 => ?_) (fun c2 => ?_)
      · rw [qc] at c2
        have c2 : H q = 0 := c2
        refine And.intro (hq16) ?_
        refine And.intro (fun c3 => ?_) (fun c3 => ?_)
        · rw [qc] at c3
          exact absurd c3 c1
        refine And.intro (hq16) ?_
        have go := take z c2
        rw [qc, nar_1]
        refine And.intro (fun c4 => ?_) (fun c4 => ?_)
        · exfalso
          have c4 : nI c + 1 ≤ nI c := c4
          rw [← nI_succ] at c4
          exact absurd c4 (nI_ge (by omega) (by omega))
        · exact go
      · rw [qc] at c2
        have c2 : ¬ H q = 0 := c2
        rw [if_neg z, if_neg c2] at hv
        have eW : W = (8, c, rN.2.2) := by
          rw [hW, ← hv]
          unfold psF
          rw [if_neg (fun z => z hN0), if_pos rfl]
        have st := stop 8 k (i + 1) c H (hdM I H c) sc (by decide) (by rw [eW]) (by rw [eW]) hH
        rw [eW, nI_succ] at st
        exact st
  refine hK (0, 13, o_M_goes_0) (List.mem_of_getElem? (i := 0) rfl) _ _ _ _ ?_
  refine call_of (a0 _ _ T sc hT) ?_
  rintro o J E ⟨rfl, rfl, sc2, rfl, -⟩
  by_cases h0 : rN.1 = 0
  · rw [h0]
    exact loop h0 l 0 (fun _ => 0) 0 sc2 (by omega) hV.symm (fun _ _ => rfl) (Nat.le_refl _)
  · have eW : W = (rN.1, 0, rN.2.2) := by
      rw [hW]
      unfold psF
      rw [if_pos h0]
    have st := stop rN.1 0 0 0 (fun _ => 0) (hdM I (fun _ => 0) 0) sc2 h0 (by rw [eW]) (by rw [eW]) (fun _ _ => rfl)
    rw [eW] at st
    exact st
def tlM (f : Int32) (I : MI) : MI := if f = 0 then I else tellM f I
theorem hm_0 (hh : I 131 = fun _ => 0) : up2 (up2 (trM I (0, I 109)) 12 88 (I 12 88 + 1)) 12 89 0 = trM (hdM (up2 I 12 88 (I 12 88 + 1)) (fun _ => 0) 0) (0, I 109) := by
  unfold hdM trM
  funext x y
  simp only [up2_at2, upc_at]
  by_cases h1 : x = 131
  · subst h1; simp [hh]
  · by_cases h2 : x = 12
    · subst h2
      by_cases h3 : y = 89
      · subst h3; simp [nI_0]
      · by_cases h4 : y = 57
        · subst h4; simp
        · simp [h3, h4]
    · simp [h1, h2]
theorem hm_c (hh : I 131 = fun _ => 0) (H : Nat → Int32) (c : Nat) (T : Tr) : upc (trM (hdM (up2 I 12 88 (I 12 88 + 1)) H c) T) 131 (fun _ => 0) = trM (hlM I c) T := by
  unfold hdM hlM trM
  funext x y
  simp only [up2_at2, upc_at]
  by_cases h1 : x = 131
  · subst h1; simp [hh]
  · simp [h1]
theorem c_M_pass {ms np : Nat} (hR : RM I) (hL : LKM I) (hms : ms ≤ 40) (rk : Nat → Nat) (hP : rkOk (I 103) (fun j => I 107 (2 * j)) (fun j => I 107 (2 * j + 1)) rk ms) (hPM : PM I np ms) (hh : I 131 = fun _ => 0) (p : Int32) (sc : MI) (sd : MD) : Con g SHc (d + 6) 247 [.ref 12, .int p] (ovX I sc) (ovD D sd) (Sc (some (.int (sel3 (ix p (nI np)) (decide (3000 ≤ I 12 2)) false (-2) (-4) 0 (pzF (gtM I (I 123 p.toNatClampNeg) (rtM I p.toNatClampNeg)).1)))) (sel3 (ix p (nI np)) (decide (3000 ≤ I 12 2)) false I I I (tlM (gtM I (I 123 p.toNatClampNeg) (rtM I p.toNatClampNeg)).1 (trM (hlM I (gtM I (I 123 p.toNatClampNeg) (rtM I p.toNatClampNeg)).2.1) (begsT (0, I 109) (gtM I (I 123 p.toNatClampNeg) (rtM I p.toNatClampNeg)).2.2)))) D) := by
  refine Con.mk (LV := v_M_pass) k_M_pass (Nat.le_of_ble_eq_true rfl) (fun K hK => ?_)
  have eT : wi p 0 (ovX I sc 12 78 - 1) = ix p (nI np) := by rw [show ovX I sc 12 78 = nI np from hPM.2.1]; exact ix_wi (by have := hPM.1; omega)
  refine hK (0, 60, o_M_pass_0) (List.mem_of_getElem? (i := 0) rfl) _ _ _ _ ?_
  refine call_eq (c_M_isPassage g (d + 4) (ovX I sc) (ovD D sd) p) ?_
  refine And.intro (fun c1 => ?_) (fun c1 => ?_)
  · rw [eT] at c1
    have h1 : ix p (nI np) = true := bI_n0.mp c1
    rw [h1]
    refine call_eq (c_M_isFull g (d + 5) (ovX I sc) (ovD D sd)) ?_
    refine And.intro (fun c2 => ?_) (fun c2 => ?_)
    · have h2 : decide (3000 ≤ I 12 2) = false := bI_0.mp c2
      rw [h2]
      obtain ⟨j, hj, rfl⟩ := ix_nI (show np < 2 ^ 31 by have := hPM.1; omega) h1
      obtain ⟨s, r, f, hs, hse, hr, hre, -⟩ := hPM.2.2 j hj
      have jc : (nI j).toNatClampNeg = j := nI_clamp (by have := hPM.1; omega)
      have hj40 : inn (nI j) 40 := inn_nI (by have := hPM.1; omega) (by decide)
      have er : rtM I j = r := by unfold rtM; rw [hre, nI_clamp (show r < 2 ^ 31 by omega)]
      have hC : Con g SHc (d + 5) 248 [.ref 12, .int (nI s), .int (nI r)] (ovX (trM (hdM (up2 I 12 88 (I 12 88 + 1)) (fun _ => 0) 0) (0, I 109)) sc) (ovD D sd) (fun o J E => ∃ sc' H', (∀ q, 16 ≤ q → H' q = 0) ∧ E = ovD D sd ∧ o = some (.int (gtM I (nI s) r).1) ∧ J = ovX (trM (hdM (up2 I 12 88 (I 12 88 + 1)) H' (gtM I (nI s) r).2.1) (begsT (0, I 109) (gtM I (nI s) r).2.2)) sc') := c_M_goes g d (up2 I 12 88 (I 12 88 + 1)) (ovD D sd) hR hL hms rk hP s r hs hr (0, I 109) (Nat.zero_le _) sc
      have eI : trM I (0, I 109) = up2 I 12 57 0 := by
        unfold trM
        show up2 (upc I 109 (I 109)) 12 57 (nI 0) = _
        rw [upc_self, nI_0]
      rw [← hm_0 I hh, eI, ← ov_n2 _ _ _ _ _ (by rfl), ← ov_n2 _ _ _ _ _ (by rfl), ← ov_n2 _ _ _ _ _ (by rfl)] at hC
      rw [jc, er, hse] at hK
      rw [h1, h2] at hK
      generalize gtM I (nI s) r = V at hC hK
      have loop : ∀ H sc, (∀ q, 16 ≤ q → H q = 0) → ∀ k i, i + k = 16 → K 60 [(0, .ref 12), (2, .int V.1), (3, .int (nI i))] [] (upc (ovX (trM (hdM (up2 I 12 88 (I 12 88 + 1)) H V.2.1) (begsT (0, I 109) V.2.2)) sc) 131 (clF H i)) (ovD D sd) := by
        intro H sc hH k
        induction k with
        | zero =>
          intro i hi
          have hi : i = 16 := by omega
          subst hi
          rw [clF_0 hH, ov_nc _ _ _ _ (fun _ => rfl), hm_c I hh]
          refine hK (60, 93, o_M_pass_1) (List.mem_of_getElem? (i := 1) rfl) _ _ _ _ ?_
          refine And.intro (fun c => ?_) (fun c => ?_)
          · refine And.intro (fun c3 => ?_) (fun c3 => ?_)
            · have e1 : pzF V.1 = 1 := by unfold pzF; rw [if_pos c3]
              have e2 : ∀ X, tlM V.1 X = X := fun X => by unfold tlM; rw [if_pos c3]
              rw [e1, e2]
              exact sc_of
            · have e1 : pzF V.1 = -10 - V.1 := by unfold pzF; rw [if_neg c3]
              have e2 : ∀ X, tlM V.1 X = tellM V.1 X := fun X => by unfold tlM; rw [if_neg c3]
              refine call_eq (c_M_fails g (d + 5) _ (ovD D sd) _) ?_
              rw [e1, e2, tellM_ov]
              exact sc_of
          · exact absurd (show nI 16 ≤ nI 16 from nI_le (Nat.le_refl _) (by decide)) c
        | succ k ih =>
          intro i hi
          have go := ih (i + 1) (by omega)
          rw [nI_succ, show clF H (i + 1) = up1 (clF H i) i 0 from rfl, ← upc_up2] at go
          refine hK (60, 93, o_M_pass_1) (List.mem_of_getElem? (i := 1) rfl) _ _ _ _ ?_
          refine And.intro (fun c => ?_) (fun c => ?_)
          · exact absurd (show nI 16 ≤ nI i from c) (nI_ge (by omega) (by omega))
          refine And.intro (inn_nI (by omega) (by decide)) ?_
          rw [nI_clamp (show i < 2 ^ 31 by omega), nar_0]
          exact go
      refine And.intro (hj40) ?_
      refine And.intro (hj40) ?_
      rw [← hse, ← hre] at hC
      rw [jc]
      refine call_of hC ?_
      rintro o J E ⟨sc', H', hH, rfl, rfl, rfl⟩
      have go := loop H' sc' hH 16 0 (by omega)
      rw [show clF H' 0 = ovX (trM (hdM (up2 I 12 88 (I 12 88 + 1)) H' V.2.1) (begsT (0, I 109) V.2.2)) sc' 131 from rfl, upc_self] at go
      exact go
    · have h2 : decide (3000 ≤ I 12 2) = true := bI_n0.mp c2
      rw [h2]
      exact sc_of
  · rw [eT] at c1
    have h1 : ix p (nI np) = false := bI_0.mp c1
    rw [h1]
    exact sc_of
end S82
