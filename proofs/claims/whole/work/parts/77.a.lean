/-! one PASSAGE is planned (reference) -/
section S77
variable (g : Gp) (d : Nat) (I : MI) (D : MD)
abbrev frM (I : MI) (r n : Nat) (pc : Int32) : Nat → Bool := frG (I 118) (I 92) (I 119) (I 117) (I 124) (I 128) (I 129) r n pc
theorem maM_fr {n r m : Nat} {pc : Int32} (hco : ∀ i, i < (I 117 r).toNatClampNeg → I 130 i = coM I r (nI m) pc i) : maM I r n = !frM I r n pc m := by
  unfold maM frM frG
  rw [Bool.not_not]
  refine anyB_c (fun q hq => ?_)
  by_cases h : I 128 q = -1
  · rw [decide_eq_true h, Bool.not_true, Bool.false_and, Bool.false_and]
  · rw [decide_eq_false h, Bool.not_false, Bool.true_and, Bool.true_and]
    exact mtA_c hco (fun _ _ => rfl)
def PM (I : MI) (n ms : Nat) : Prop := n ≤ 40 ∧ I 12 78 = nI n ∧ ∀ p, p < n → ∃ s r f, s < ms ∧ I 123 p = nI s ∧ r < 6 ∧ I 124 p = nI r ∧ f < 43200 ∧ I 125 p = nI f
def seM (I : MI) (n m tk fd b np : Nat) (s : Int32) (r f : Nat) (pat : Int32) : Nat × Int32 := seF (fun q => minM I n m tk fd b r s (nI q)) (frM I r np (askM I 2 5 s).2.1) (cntF f pat) f
/-- what plans() leaves -/
def plP (I : MI) (D : MD) (T : Tr) (p f : Nat) (r3 : AskR) (se : Nat × Int32) (bs : List Int32) (pc : Int32) : Po := fun o J E => ∃ sc' sd', o = none ∧ E = ovD D sd' ∧ (¬ r3.1 = 0 ∧ J = ovX (tellM r3.1 (trM (up2 I 126 p 0) (begsT T r3.2.2))) sc' ∨ r3.1 = 0 ∧ ¬ se.2 = 1 ∧ J = ovX (tellAM se.2 (trM (up2 I 126 p 0) (bsT (begsT T r3.2.2) bs se.1))) sc' ∨ r3.1 = 0 ∧ se.2 = 1 ∧ ¬ pc < 1 ∧ J = ovX (trM (up2 (up2 (up2 I 126 p 0) 128 p (nI (f + se.1 - 1))) 129 p pc) (bsT (begsT T r3.2.2) bs se.1)) sc')
theorem minM_f {n m tk fd b r : Nat} {s mi : Int32} (hR : RM I) (hr : r < 6) : minM I n m tk fd b r s mi = 1 ∨ minM I n m tk fd b r s mi = 0 ∨ minM I n m tk fd b r s mi = -3 ∨ minM I n m tk fd b r s mi < -10 := by
  obtain ⟨l, hl, hle, hlg⟩ := hR r hr
  unfold minM miF
  split
  next h =>
    refine Or.inr (Or.inr (Or.inr ?_))
    rcases askF_c (I 103) (I 104) (I 105) (I 106) (fun j => I 107 (2 * j)) (fun j => I 107 (2 * j + 1)) 0 5 s with q | q | q
    · exact absurd q h
    · rw [q]; decide
    · rw [q]; decide
  · split
    next h =>
      refine Or.inr (Or.inr (Or.inr ?_))
      rcases askF_c (I 103) (I 104) (I 105) (I 106) (fun j => I 107 (2 * j)) (fun j => I 107 (2 * j + 1)) 2 5 s with q | q | q
      · exact absurd q h
      · rw [q]; decide
      · rw [q]; decide
    · split
      next h =>
        refine Or.inr (Or.inr (Or.inr ?_))
        rcases askF_c (I 103) (I 104) (I 105) (I 106) (fun j => I 107 (2 * j)) (fun j => I 107 (2 * j + 1)) 4 5 s with q | q | q
        · exact absurd q h
        · rw [q]; decide
        · rw [q]; decide
      · split
        · exact Or.inr (Or.inr (Or.inl rfl))
        · have hall : ∀ (co lg : Nat → Int32) (k i : Nat), (∀ j, i ≤ j → j < i + k → lg j = 0 ∨ lg j = 1 ∨ lg j = -1 ∨ lg j = -7 ∨ lg j = -2) → tmF co lg k i = 1 ∨ tmF co lg k i = 0 ∨ tmF co lg k i = -3 ∨ tmF co lg k i < -10 := by
            intro co lg k
            induction k with
            | zero => intro i _; exact Or.inl rfl
            | succ k ih =>
              intro i hj
              unfold tmF
              split
              · exact Or.inr (Or.inr (Or.inl rfl))
              · split
                · exact ih (i + 1) (fun j h1 h2 => hj j (by omega) (by omega))
                next h =>
                  rcases hj i (by omega) (by omega) with q | q | q | q | q
                  · rw [q]; exact Or.inr (Or.inl rfl)
                  · exact absurd q h
                  · rw [q]; exact Or.inr (Or.inr (Or.inr (by decide)))
                  · rw [q]; exact Or.inr (Or.inr (Or.inr (by decide)))
                  · rw [q]; exact Or.inr (Or.inr (Or.inr (by decide)))
          refine hall _ _ _ _ (fun j _ hj => ?_)
          rw [hle, nI_clamp (by omega)] at hj
          obtain ⟨q, s', a, hq, hqe, hs', hse, -⟩ := hlg j (by omega)
          exact lgMf_c I n m tk fd b _ _ _ _ ⟨s', hs', by rw [hqe, nI_clamp (show q < 2 ^ 31 by omega)]; exact hse⟩
theorem pmF_le (f : Nat) (pat : Int32) (hf : f < 43200) : (nI f + pmF pat).toInt = f + (pmF pat).toInt := by
  have h : (pmF pat).toInt ≤ 120 := by
    unfold pmF
    split
    next h => rw [i32_lt, show ((120 : Int32)).toInt = 120 by decide] at h; omega
    next => decide
  have h2 := Int32.le_toInt (pmF pat)
  rw [Int32.toInt_add, nI_toInt (by omega)]
  rw [Int.bmod_eq_of_le] <;> omega
theorem wi_mi {k : Nat} (hk : k < 2 ^ 31) : wi (nI k) 0 43199 = decide (k < 43200) := by
  unfold wi
  rw [decide_eq_true (nI_pos' hk), Bool.true_and]
  refine decide_eq_decide.mpr ?_
  rw [show (43199 : Int32) = nI 43199 from rfl, nI_leI hk (by decide)]
  omega
theorem pm_le {v : Int32} (h : v ≤ 120) : pmF v = v := by
  unfold pmF
  split
  · rfl
  next z =>
    rw [i32_le] at h
    rw [i32_lt] at z
    exact Int32.toInt_inj.mp (by omega)
theorem pm_gt {v : Int32} (h : ¬ v ≤ 120) : pmF v = 120 := by
  unfold pmF
  rw [if_neg]
  rw [i32_le] at h
  rw [i32_lt]
  omega
set_option maxHeartbeats 2000000 in
theorem c_M_plans {n m tk fd b h ms np : Nat} (hB : KM I n m tk fd b h) (hR : RM I) (hW : WM I) (hL : LKM I) (hms : ms ≤ 40) (rk : Nat → Nat) (hP : rkOk (I 103) (fun j => I 107 (2 * j)) (fun j => I 107 (2 * j + 1)) rk ms) (hPM : PM I np ms) (hpp : ∀ p, p < np → ¬ I 128 p = -1 → ¬ I 129 p = 0) (p s r f : Nat) (hp : p < np) (hs : s < ms) (hse : I 123 p = nI s) (hr : r < 6) (hre : I 124 p = nI r) (hf : f < 43200) (hfe : I 125 p = nI f) (T : Tr) (hT : T.1 ≤ 100) (sc : MI) (sd : MD) : Con g SHc (d + 15) 239 [.ref 12, .int (nI p)] (ovX (trM I T) sc) (ovD D sd) (plP I D T p f (askM I 3 5 (nI s)) (seM I n m tk fd b np (nI s) r f (askM I 3 5 (nI s)).2.1) (bdM I (nI s)) (askM I 2 5 (nI s)).2.1) := by
  refine Con.mk (LV := v_M_plans) k_M_plans (Nat.le_of_ble_eq_true rfl) (fun K hK => ?_)
  have hp40 : inn (nI p) 40 := inn_nI (Nat.lt_of_lt_of_le hp hPM.1) (by decide)
  have hn40 := hPM.1
  have pc : (nI p).toNatClampNeg = p := nI_clamp (by omega)
  have hix : ix (nI s) (nI ms) = true := by
    unfold ix
    rw [decide_eq_true (nI_pos' (by omega)), decide_eq_true (nI_lt hs (by omega))]
    rfl
  have hT1 : (begsT T (askM I 3 5 (nI s)).2.2).1 ≤ 100 := begsT_le _ hT
  have hA : ∀ sc', Con g SHc (d + 14) 203 [.ref 12, .int (nI s), .int 3] (ovX (trM (up2 I 126 p 0) T) sc') (ovD D sd) (amP (up2 I 126 p 0) (ovD D sd) T sc' (askM I 3 5 (nI s))) := fun sc' => c_M_asks g (d + 10) (up2 I 126 p 0) (ovD D sd) ms hms rk hP 3 (nI s) (Or.inr ⟨s, hs, rfl, by have := (hP s hs).1; omega⟩) T hT sc'
  unfold seM at hK
  generalize askM I 3 5 (nI s) = r3 at hK hA hT1
  obtain ⟨V, hV⟩ : ∃ V, V = seF (fun q => minM I n m tk fd b r (nI s) (nI q)) (frM I r np (askM I 2 5 (nI s)).2.1) (cntF f r3.2.1) f := ⟨_, rfl⟩
  rw [← hV] at hK
  have stop : ∀ v J E, plP I D T p f r3 V (bdM I (nI s)) (askM I 2 5 (nI s)).2.1 none J E → K 60 [(0, .ref 12), (1, .int (nI p)), (3, .int (pmF r3.2.1)), (4, .int 0), (5, .int v)] [] J E := by
    intro v J E hQ
    refine hK (60, 177, o_M_plans_1) (List.mem_of_getElem? (i := 1) rfl) _ _ _ _ ?_
    refine And.intro (hp40) ?_
    refine And.intro (fun c => ?_) (fun c => ?_)
    · exact hQ
    refine call_eq (c_M_isMinute g (d + 13) J E v) ?_
    refine And.intro (fun c1 => ?_) (fun c1 => ?_)
    · exact hQ
    refine And.intro (fun c2 => ?_) (fun c2 => ?_)
    · exact hQ
    · exact absurd rfl c2
  have loop : r3.1 = 0 → ∀ q i sc sd, i + q = cntF f r3.2.1 → V = (i + (seF (fun q => minM I n m tk fd b r (nI s) (nI q)) (frM I r np (askM I 2 5 (nI s)).2.1) q (f + i)).1, (seF (fun q => minM I n m tk fd b r (nI s) (nI q)) (frM I r np (askM I 2 5 (nI s)).2.1) q (f + i)).2) → K 60 [(0, .ref 12), (1, .int (nI p)), (3, .int (pmF r3.2.1)), (4, .int 1), (5, .int (nI (f + i)))] [] (ovX (trM (up2 I 126 p 0) (bsT (begsT T r3.2.2) (bdM I (nI s)) i)) sc) (ovD D sd) := by
    intro h30 q
    have hel := enE_le f r3.2.1
    have hpm := pmF_le f r3.2.1 hf
    have hen : (enE f r3.2.1).toInt = if (f : Int) + (pmF r3.2.1).toInt < 43200 then (f : Int) + (pmF r3.2.1).toInt else 43200 := by
      unfold enE
      split
      next z =>
        rw [i32_lt, hpm, show ((43200 : Int32)).toInt = 43200 by decide] at z
        rw [if_pos z, hpm]
      next z =>
        rw [i32_lt, hpm, show ((43200 : Int32)).toInt = 43200 by decide] at z
        rw [if_neg z]
        decide
    induction q with
    | zero =>
      intro i sc sd hi hv
      have hv : V = (i, 0) := hv
      have hcn : cntF f r3.2.1 = ((enE f r3.2.1).toInt - f).toNat := rfl
      have fin : plP I D T p f r3 V (bdM I (nI s)) (askM I 2 5 (nI s)).2.1 none (ovX (trM (up2 I 126 p 0) (bsT (begsT T r3.2.2) (bdM I (nI s)) i)) sc) (ovD D sd) := by
        rw [hv]
        exact ⟨sc, sd, rfl, rfl, Or.inr (Or.inl ⟨h30, (by decide : ¬ (0 : Int32) = 1), rfl⟩)⟩
      refine hK (60, 177, o_M_plans_1) (List.mem_of_getElem? (i := 1) rfl) _ _ _ _ ?_
      refine And.intro (hp40) ?_
      refine And.intro (fun c => ?_) (fun c => ?_)
      · exact fin
      have c : nI (f + i) < nI f + pmF r3.2.1 := by
        rw [pc, show ovX (trM (up2 I 126 p 0) (bsT (begsT T r3.2.2) (bdM I (nI s)) i)) sc 125 p = nI f from hfe] at c
        exact i32_nle.mp c
      refine call_eq (c_M_isMinute g (d + 13) _ _ _) ?_
      refine And.intro (fun c1 => ?_) (fun c1 => ?_)
      · exact fin
      · exfalso
        have h1 := bI_n0.mp c1
        have hb31 : f + i < 2 ^ 31 := by omega
        rw [wi_mi hb31, decide_eq_true_eq] at h1
        rw [i32_lt, hpm, nI_toInt (by omega)] at c
        split at hen <;> omega
    | succ q ih =>
      intro i sc sd hi hv
      have hcn : cntF f r3.2.1 = ((enE f r3.2.1).toInt - f).toNat := rfl
      have hfi : f + i < 43200 := by omega
      have hfp : (f : Int) + i < f + (pmF r3.2.1).toInt := by split at hen <;> omega
      have hmf := minM_f I (n := n) (m := m) (tk := tk) (fd := fd) (b := b) (s := nI s) (mi := nI (f + i)) hR hr
      have nxt : seF (fun q => minM I n m tk fd b r (nI s) (nI q)) (frM I r np (askM I 2 5 (nI s)).2.1) (q + 1) (f + i) = if minM I n m tk fd b r (nI s) (nI (f + i)) < -10 then (1, minM I n m tk fd b r (nI s) (nI (f + i))) else if minM I n m tk fd b r (nI s) (nI (f + i)) = 1 ∧ frM I r np (askM I 2 5 (nI s)).2.1 (f + i) = true then (1, 1) else ((seF (fun q => minM I n m tk fd b r (nI s) (nI q)) (frM I r np (askM I 2 5 (nI s)).2.1) q (f + i + 1)).1 + 1, (seF (fun q => minM I n m tk fd b r (nI s) (nI q)) (frM I r np (askM I 2 5 (nI s)).2.1) q (f + i + 1)).2) := rfl
      rw [nxt] at hv
      have hTi : (bsT (begsT T r3.2.2) (bdM I (nI s)) i).1 ≤ 100 := bsT_le hT1 _ i
      have hC : Con g SHc (d + 14) 232 [.ref 12, .int (nI s), .int (nI r), .int (nI (f + i))] (ovX (trM (up2 I 126 p 0) (bsT (begsT T r3.2.2) (bdM I (nI s)) i)) sc) (ovD D sd) (lkP (up2 I 126 p 0) D (bsT (begsT T r3.2.2) (bdM I (nI s)) i) (minM I n m tk fd b r (nI s) (nI (f + i))) (bdM I (nI s)) r (nI (f + i)) (askM I 2 5 (nI s)).2.1) := c_M_looks g d (up2 I 126 p 0) D hB hR hW hms rk hP (nI s) hix r (f + i) hr hfi _ hTi sc sd
      have go : ∀ sc sd, V = (i + 1 + (seF (fun q => minM I n m tk fd b r (nI s) (nI q)) (frM I r np (askM I 2 5 (nI s)).2.1) q (f + (i + 1))).1, (seF (fun q => minM I n m tk fd b r (nI s) (nI q)) (frM I r np (askM I 2 5 (nI s)).2.1) q (f + (i + 1))).2) → _ := fun sc sd hv => ih (i + 1) sc sd (by omega) hv
      refine hK (60, 177, o_M_plans_1) (List.mem_of_getElem? (i := 1) rfl) _ _ _ _ ?_
      refine And.intro (hp40) ?_
      refine And.intro (fun c => ?_) (fun c => ?_)
      · exfalso
        rw [pc, show ovX (trM (up2 I 126 p 0) (bsT (begsT T r3.2.2) (bdM I (nI s)) i)) sc 125 p = nI f from hfe] at c
        rw [i32_le, hpm, nI_toInt (by omega)] at c
        omega
      refine call_eq (c_M_isMinute g (d + 13) _ _ _) ?_
      refine And.intro (fun c1 => ?_) (fun c1 => ?_)
      · exfalso
        have h1 := bI_0.mp c1
        rw [wi_mi (by omega), decide_eq_true hfi] at h1
        exact absurd h1 (by decide)
      refine And.intro (fun c8 => ?_) (fun c8 => ?_)
      · exact absurd c8 (by decide)
      refine And.intro (hp40) ?_
      refine And.intro (hp40) ?_
      rw [pc, show ovX (trM (up2 I 126 p 0) (bsT (begsT T r3.2.2) (bdM I (nI s)) i)) sc 123 p = nI s from hse, show ovX (trM (up2 I 126 p 0) (bsT (begsT T r3.2.2) (bdM I (nI s)) i)) sc 124 p = nI r from hre]
      refine call_of hC ?_
      rintro o J E ⟨sc2, sd2, rfl, rfl, rfl, hco⟩
      generalize minM I n m tk fd b r (nI s) (nI (f + i)) = A at hv hmf hco ⊢
      by_cases hA10 : A < -10
      · rw [if_pos hA10] at hv
        refine And.intro (fun z => absurd hA10 (i32_nlt.mpr z)) (fun _ => ?_)
        refine call_eq (c_M_fails g (d + 14) _ _ _) ?_
        refine stop _ _ _ ?_
        · rw [hv]
          refine ⟨sc2, sd2, rfl, rfl, Or.inr (Or.inl ⟨h30, ?_, ?_⟩)⟩
          · intro z
            rw [show A = 1 from z] at hA10
            exact absurd hA10 (by decide)
          · unfold tellAM
            rw [if_pos hA10, tellM_ov]
            rfl
      · rw [if_neg hA10] at hv
        refine And.intro (fun _ => ?_) (fun z => absurd (i32_nlt.mp hA10) z)
        refine And.intro (fun c2 => ?_) (fun c2 => ?_)
        · rw [if_neg (fun z => c2 z.1)] at hv
          have g9 := go sc2 sd2 (by rw [hv]; exact Prod.ext ((fun x => by omega : ∀ x : Nat, i + (x + 1) = i + 1 + x) _) rfl)
          rw [show f + (i + 1) = f + i + 1 from rfl, nI_succ] at g9
          exact g9
        refine And.intro (hp40) ?_
        rw [pc, show ovX (trM (up2 I 126 p 0) (begsT (bsT (begsT T r3.2.2) (bdM I (nI s)) i) (bdM I (nI s)))) sc2 124 p = nI r from hre]
        have hma : Con g SHc (d + 14) 240 [.ref 12, .int (nI r)] (ovX (trM (up2 I 126 p 0) (begsT (bsT (begsT T r3.2.2) (bdM I (nI s)) i) (bdM I (nI s)))) sc2) (ovD D sd2) (EqP (some (.int (bI (frM I r np (askM I 2 5 (nI s)).2.1 (f + i))))) (ovX (trM (up2 I 126 p 0) (begsT (bsT (begsT T r3.2.2) (bdM I (nI s)) i) (bdM I (nI s)))) sc2) (ovD D sd2)) := by
          have h9 := c_M_isFree g (d + 11) (ovX (trM (up2 I 126 p 0) (begsT (bsT (begsT T r3.2.2) (bdM I (nI s)) i) (bdM I (nI s)))) sc2) (ovD D sd2) hR hL r np hr hPM.1 hPM.2.1 (fun p' hp' => by
            obtain ⟨s', r', f', -, -, z1, z2, -⟩ := hPM.2.2 p' hp'
            exact ⟨r', z1, z2⟩) hpp
          rw [maM_fr (ovX (trM (up2 I 126 p 0) (begsT (bsT (begsT T r3.2.2) (bdM I (nI s)) i) (bdM I (nI s)))) sc2) (m := f + i) (pc := (askM I 2 5 (nI s)).2.1) (hco c2).1, Bool.not_not] at h9
          exact h9
        refine call_eq (hma) ?_
        refine And.intro (fun c3 => ?_) (fun c3 => ?_)
        · have h3 := bI_0.mp c3
          rw [if_neg (fun z => by rw [z.2] at h3; exact absurd h3 (by decide))] at hv
          have g9 := go sc2 sd2 (by rw [hv]; exact Prod.ext ((fun x => by omega : ∀ x : Nat, i + (x + 1) = i + 1 + x) _) rfl)
          rw [show f + (i + 1) = f + i + 1 from rfl, nI_succ] at g9
          exact g9
        · have h3 := bI_n0.mp c3
          rw [if_pos ⟨c2, h3⟩] at hv
          refine And.intro (hp40) ?_
          refine And.intro (hp40) ?_
          rw [pc, ov_n2 _ _ _ _ _ (by rfl), ov_n2 _ _ _ _ _ (by rfl), show ovX (up2 (trM (up2 I 126 p 0) (begsT (bsT (begsT T r3.2.2) (bdM I (nI s)) i) (bdM I (nI s)))) 128 p (nI (f + i))) sc2 12 87 = (askM I 2 5 (nI s)).2.1 from (hco c2).2.1]
          refine stop _ _ _ ?_
          · rw [hv]
            refine ⟨sc2, sd2, rfl, rfl, Or.inr (Or.inr ⟨h30, rfl, (hco c2).2.2, ?_⟩)⟩
            rw [show f + (i + 1) - 1 = f + i by omega, show bsT (begsT T r3.2.2) (bdM I (nI s)) (i + 1) = begsT (bsT (begsT T r3.2.2) (bdM I (nI s)) i) (bdM I (nI s)) from rfl]
            congr 1
            unfold trM
            funext x y
            simp only [up2_at2, upc_at]
            by_cases h1 : x = 109
            · subst h1; simp
            · by_cases h2 : x = 129
              · subst h2; simp
              · by_cases h3 : x = 128
                · subst h3; simp
                · simp [h1, h2, h3]
  refine hK (0, 60, o_M_plans_0) (List.mem_of_getElem? (i := 0) rfl) _ _ _ _ ?_
  refine And.intro (hp40) ?_
  rw [pc, nar_0, ov_n2 _ _ _ _ _ (by rfl)]
  have etr : up2 (trM I T) 126 p 0 = trM (up2 I 126 p 0) T := by
    unfold trM
    funext x y
    simp only [up2_at2, upc_at]
    by_cases h1 : x = 126
    · subst h1; simp
    · simp [h1]
  rw [etr]
  refine And.intro (hp40) ?_
  rw [pc, show ovX (trM (up2 I 126 p 0) T) sc 123 p = nI s from hse]
  refine call_of (hA sc) ?_
  rintro o J E ⟨rfl, rfl, sc', rfl, hv, -⟩
  refine And.intro (fun c1 => ?_) (fun c1 => ?_)
  · have go := loop c1 (cntF f r3.2.1) 0 sc' sd (by omega) (by rw [hV, Nat.zero_add]; rfl)
    refine And.intro (fun c2 => ?_) (fun c2 => ?_)
    · rw [show ovX (trM (up2 I 126 p 0) (begsT T r3.2.2)) sc' 12 62 = r3.2.1 from hv c1] at c2
      refine And.intro (hp40) ?_
      rw [pc, show ovX (trM (up2 I 126 p 0) (begsT T r3.2.2)) sc' 125 p = nI f from hfe, show ovX (trM (up2 I 126 p 0) (begsT T r3.2.2)) sc' 12 62 = r3.2.1 from hv c1]
      rw [show pmF r3.2.1 = r3.2.1 from pm_le c2] at go
      exact go
    · rw [show ovX (trM (up2 I 126 p 0) (begsT T r3.2.2)) sc' 12 62 = r3.2.1 from hv c1] at c2
      refine And.intro (hp40) ?_
      rw [pc, show ovX (trM (up2 I 126 p 0) (begsT T r3.2.2)) sc' 125 p = nI f from hfe]
      rw [show pmF r3.2.1 = 120 from pm_gt c2] at go
      exact go
  · refine call_eq (c_M_fails g (d + 14) _ (ovD D sd) _) ?_
    rw [tellM_ov]
    exact ⟨_, sd, rfl, rfl, Or.inl ⟨c1, rfl⟩⟩
end S77
