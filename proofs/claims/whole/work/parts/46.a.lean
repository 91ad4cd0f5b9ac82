section S46
variable (g : Gp) (d : Nat) (I : MI) (D : MD)
abbrev moM (I : MI) (j i : Nat) : Int32 := I 84 j + nI i * I 85 j
abbrev shM' (I : MI) (j i : Nat) : Int32 := I 88 (120 * j + i)
abbrev noM (I : MI) (n j : Nat) (m : Int32) : Bool := decide (sfM I (I 83 j) m (I 12 0) n = -1)
abbrev hhM (I : MI) (n j : Nat) (m : Int32) : UInt64 := hgtM I n (I 83 j) m (I 12 0)
def enM (I : MI) (j z : Nat) (t : Int32) : Nat := enF (moM I j) t z 0
def sgM (I : MI) (D : MD) (n j z tk : Nat) (t : Int32) : Srg := sgF (moM I j) (shM' I j) (noM I n j) (hhM I n j) (D 90) 0 (enM I j z t - tk) (enM I j z t - (enM I j z t - tk))
/-- the reference's scratch of a SURGE -/
def gmI (I : MI) (S : Srg) : MI := up2 I 12 32 (nI S.k)
def gmD (D : MD) (lv : UInt64) (G : Nat → UInt64) : MD := up2 (upc D 90 G) 12 17 lv
def agM (t : Int32) (S : Srg) : Int32 := if S.n = 0 then 0 else t - S.la
theorem up2_same {α : Type} (f : Nat → Nat → α) (k j : Nat) : up2 f k j (f k j) = f := by
  funext a b
  rw [up2_at2]
  split
  next h => rw [h.1, h.2]
  next => rfl
theorem up2_upc {α : Type} (f : Nat → Nat → α) (k l j : Nat) (h : k ≠ l) (G : Nat → α) (v : α) : upc (up2 f l j v) k G = up2 (upc f k G) l j v := by
  funext a b
  rw [upc_at, up2_at2, up2_at2, upc_at]
  by_cases h1 : a = k
  · have : ¬ a = l := fun h2 => h (h1 ▸ h2)
    simp [h1, h]
  · simp [h1]
theorem gmD_st (lv : UInt64) (G : Nat → UInt64) (p : Nat) (v : UInt64) : up2 (gmD D lv G) 90 p v = gmD D lv (up1 G p v) := by
  unfold gmD
  rw [← upc_up2]
  funext a b
  simp only [up2_at2]
  by_cases h : a = 90
  · simp [h]
  · simp [h]
theorem ofM_fb {n : Nat} (hn : n ≤ 60) (hw : ∀ i, i < n → ∃ w, w ≤ 8 ∧ I 79 i = nI w) (v s m w : Int32) (h : ¬ sfM I s m w n = -1) : fb 301 (FP.dsub (FP.ddiv (FP.i2d v) 4636737291354636288) (hgtM I n s m w)) :=
  fb_sub (E := 300) (by omega) (fb_mono (by omega) (mn_fb v)) (hgtM_fb I n hn hw s m w h)
def suP (I : MI) (D : MD) (fd : Nat) (t : Int32) (S : Srg) : Po := fun o I' D' => o = some (.int (if S.n = 0 then 7 else 0)) ∧ I' = gmI I S ∧ ∃ lv, D' = (if S.n = 0 then gmD D lv S.G else up2 (gmD D lv S.G) 12 31 (sgV (nI fd) t S.la S.G S.n))
set_option maxHeartbeats 2000000 in
theorem c_M_surges (n j z tk fd : Nat) (hn : n ≤ 60) (hI : I 12 8 = nI n) (hw : ∀ i, i < n → ∃ w, w ≤ 8 ∧ I 79 i = nI w) (hj : j < 10) (hz : z ≤ 120) (hS : I 87 j = nI z) (h9 : tk ≤ 9) (htk : I 12 26 = nI tk) (f0 : 1 ≤ fd) (f1 : fd ≤ 48) (hF : I 12 27 = nI fd) (t : Int32) (hfb : 0 < (sgM I D n j z tk t).n → fb 301 ((sgM I D n j z tk t).G (((sgM I D n j z tk t).n - 1) / 2))) : Con g SHc (d + 2) 178 [.ref 12, .int (nI j), .int t] I D (suP I D fd t (sgM I D n j z tk t)) := by
  refine Con.mk (LV := v_M_surges) k_M_surges (Nat.le_of_ble_eq_true rfl) (fun K hK => ?_)
  have hjc : (nI j).toNatClampNeg = j := nI_clamp (by omega)
  have hj10 : inn (nI j) 10 := inn_nI hj (by decide)
  obtain ⟨e, hE⟩ : ∃ e, enF (moM I j) t z 0 = e := ⟨_, rfl⟩
  have he120 : e ≤ 120 := by
    rw [← hE]
    have := enF_le (moM I j) t z 0
    omega
  have eS : sgM I D n j z tk t = sgF (moM I j) (shM' I j) (noM I n j) (hhM I n j) (D 90) 0 (e - tk) (e - (e - tk)) := by
    unfold sgM enM
    rw [hE]
  have hN9 := sgF_n (moM I j) (shM' I j) (noM I n j) (hhM I n j) (D 90) 0 (e - tk) (e - (e - tk))
  rw [eS] at hK hfb
  have fin : ∀ lv S, S = sgF (moM I j) (shM' I j) (noM I n j) (hhM I n j) (D 90) 0 (e - tk) (e - (e - tk)) → K 213 [(0, .ref 12), (4, .int (nI S.n)), (5, .int (agM t S))] [] (gmI I S) (gmD D lv S.G) := by
    intro lv S hSS
    rw [← hSS] at hN9 hfb hK
    refine hK (213, 276, o_M_surges_5) (List.mem_of_getElem? (i := 5) rfl) _ _ _ _ ?_
    refine And.intro (fun c => ?_) (fun c => ?_)
    · have c1 : ¬ S.n = 0 := fun h => c (by rw [h]; rfl)
      have e9 : agM t S = t - S.la := if_neg c1
      rw [e9]
      refine And.intro (fun c2 => ?_) (fun c2 => ?_)
      · rw [show gmI I S 12 27 = nI fd from hF] at c2
        refine And.intro (by decide) ?_
        refine And.intro (by rw [half_n (by omega) (by omega)]; exact inn_nI (by omega) (by decide)) ?_
        rw [half_n (by omega) (by omega), nI_clamp (show (S.n - 1) / 2 < 2 ^ 31 by omega)]
        refine And.intro (fb_n (fb_mul (E := 31) (F := 12) (by omega) (fb_i2d (by omega) (i32_abs _)) (fb_c (by decide +kernel)))) ?_
        rw [show gmI I S 12 27 = nI fd from hF]
        refine And.intro (fb_n (fq_fb f0 f1 _)) ?_
        refine And.intro (fb_n (fb_mul (E := 301) (F := 31) (by omega) (hfb (by omega)) (fq_fb f0 f1 _))) ?_
        refine And.intro ?_ (And.intro rfl ⟨lv, ?_⟩)
        · rw [if_neg c1]
        · rw [if_neg c1]
          unfold sgV
          rw [if_neg (i32_nle.mpr c2)]
          rfl
      · rw [show gmI I S 12 27 = nI fd from hF] at c2
        refine And.intro ?_ (And.intro rfl ⟨lv, ?_⟩)
        · rw [if_neg c1]
        · rw [if_neg c1]
          unfold sgV
          rw [if_pos (i32_nlt.mp c2)]
    · have c1 : S.n = 0 := (nI_eq (a := S.n) (b := 0) (by omega) (by decide)).mp c
      refine And.intro ?_ (And.intro rfl ⟨lv, ?_⟩)
      · rw [if_pos c1]
      · rw [if_pos c1]
  have ins : ∀ (S : Srg) (i : Nat) (lv x : UInt64), S.n < 9 → K 207 [(0, .ref 12), (1, .int (nI j)), (2, .int t), (3, .int (nI e)), (4, .int (nI (S.n + 1))), (5, .int (t - moM I j i)), (6, .int (nI i))] [] (gmI I S) (gmD D lv (insG x S.G S.n)) → ∀ (p : Nat) (G : Nat → UInt64), p ≤ S.n → insG x G p = insG x S.G S.n → K 142 [(0, .ref 12), (1, .int (nI j)), (2, .int t), (3, .int (nI e)), (4, .int (nI S.n)), (6, .int (nI i)), (8, .double x), (10, .int (nI p))] [] (gmI I S) (gmD D lv G) := by
    intro S i lv x hS9 cont p
    rw [nI_succ] at cont
    induction p with
    | zero =>
      intro G hp hG
      refine hK (142, 207, o_M_surges_3) (List.mem_of_getElem? (i := 3) rfl) _ _ _ _ ?_
      refine And.intro (fun c => ?_) (fun c => ?_)
      · refine And.intro (inn_nI (by omega) (by decide)) ?_
        rw [nI_clamp (show 0 < 2 ^ 31 by decide), gmD_st]
        refine call_eq (c_M_momentOf g (d + 1) (gmI I S) (gmD D lv (up1 G 0 x)) j hj (nI i)) ?_
        rw [← hG] at cont
        exact cont
      · exact absurd (show nI 0 ≤ 0 by decide) c
    | succ p ih =>
      intro G hp hG
      refine hK (142, 207, o_M_surges_3) (List.mem_of_getElem? (i := 3) rfl) _ _ _ _ ?_
      refine And.intro (fun c => ?_) (fun c => ?_)
      · exact absurd c (nI_nle0 (by omega) (by omega))
      refine And.intro (by rw [nI_pred]; exact inn_nI (by omega) (by decide)) ?_
      refine And.intro (fun c2 => ?_) (fun c2 => ?_)
      · have c2 : Op.cmpValue (FP.dcmp x (gmD D lv G 90 (nI (p + 1) - 1).toNatClampNeg)) .g ≥ 0 := c2
        rw [nI_pred, nI_clamp (show p < 2 ^ 31 by omega)] at c2
        have c3 : ¬ FP.dcmp x (G p) = some .lt := by
          intro h
          rw [show FP.dcmp x (gmD D lv G 90 p) = some .lt from h] at c2
          exact absurd c2 (by decide)
        refine And.intro (inn_nI (by omega) (by decide)) ?_
        rw [nI_clamp (show p + 1 < 2 ^ 31 by omega), gmD_st]
        refine call_eq (c_M_momentOf g (d + 1) (gmI I S) (gmD D lv (up1 G (p + 1) x)) j hj (nI i)) ?_
        rw [← hG, insG, if_neg c3] at cont
        exact cont
      · have c2 : ¬ Op.cmpValue (FP.dcmp x (gmD D lv G 90 (nI (p + 1) - 1).toNatClampNeg)) .g ≥ 0 := c2
        rw [nI_pred, nI_clamp (show p < 2 ^ 31 by omega)] at c2
        have c3 : FP.dcmp x (G p) = some .lt := by
          have c2 : ¬ Op.cmpValue (FP.dcmp x (G p)) .g ≥ 0 := c2
          cases h : FP.dcmp x (G p) with
          | none => rw [h] at c2; exact absurd (by decide) c2
          | some o =>
            rw [h] at c2
            cases o with
            | gt => exact absurd (by decide) c2
            | eq => exact absurd (by decide) c2
            | lt => rfl
        refine And.intro (by rw [nI_pred]; exact inn_nI (by omega) (by decide)) ?_
        refine And.intro (inn_nI (by omega) (by decide)) ?_
        have go := ih (up1 G (p + 1) (G p)) (by omega) (by rw [← hG]; conv => rhs; unfold insG; rw [if_pos c3])
        rw [← gmD_st] at go
        rw [nI_pred, nI_clamp (show p < 2 ^ 31 by omega), nI_clamp (show p + 1 < 2 ^ 31 by omega)]
        rw [← nI_pred' p] at go
        exact go
  have loop2 : ∀ r q lv, e - tk + q + r = e → ∀ S, S = sgF (moM I j) (shM' I j) (noM I n j) (hhM I n j) (D 90) 0 (e - tk) q → K 59 [(0, .ref 12), (1, .int (nI j)), (2, .int t), (3, .int (nI e)), (4, .int (nI S.n)), (5, .int (agM t S)), (6, .int (nI (e - tk + q)))] [] (gmI I S) (gmD D lv S.G) := by
    intro r
    induction r with
    | zero =>
      intro q lv hq S hSS
      have hq1 : q = e - (e - tk) := by omega
      subst hq1
      have hq2 : e - tk + (e - (e - tk)) = e := by omega
      rw [hq2]
      refine hK (59, 142, o_M_surges_2) (List.mem_of_getElem? (i := 2) rfl) _ _ _ _ ?_
      refine And.intro (fun c => ?_) (fun c => ?_)
      · exact fin lv S hSS
      · exact absurd (nI_le (Nat.le_refl _) (by omega)) c
    | succ r ih =>
      intro q lv hq S hSS
      have hnk := sgF_n (moM I j) (shM' I j) (noM I n j) (hhM I n j) (D 90) 0 (e - tk) q
      rw [← hSS] at hnk
      have go : ∀ (lv : UInt64) (S' : Srg), S' = (if (decide (shM' I j (e - tk + q) = -32768) || noM I n j (moM I j (e - tk + q))) = true then (S.n, S.k + 1, S.G, S.la) else (S.n + 1, S.k, insG (FP.dsub (FP.ddiv (FP.i2d (shM' I j (e - tk + q))) 4636737291354636288) (hhM I n j (moM I j (e - tk + q)))) S.G S.n, moM I j (e - tk + q))) → K 207 [(0, .ref 12), (1, .int (nI j)), (2, .int t), (3, .int (nI e)), (4, .int (nI S'.n)), (5, .int (agM t S')), (6, .int (nI (e - tk + q)))] [] (gmI I S') (gmD D lv S'.G) := by
        intro lv S' hS'
        have h := ih (q + 1) lv (by omega) S' (by rw [hS', sgF, ← hSS])
        rw [← Nat.add_assoc, nI_succ] at h
        refine hK (207, 213, o_M_surges_4) (List.mem_of_getElem? (i := 4) rfl) _ _ _ _ ?_
        exact h
      obtain ⟨i, hi⟩ : ∃ i, e - tk + q = i := ⟨_, rfl⟩
      rw [hi] at go hq ⊢
      have e1 : 120 * nI j + nI i = nI (120 * j + i) := nI_lin' 120 j i
      have ec : (nI (120 * j + i)).toNatClampNeg = 120 * j + i := nI_clamp (by omega)
      have k1 : up2 (gmI I S) 12 32 (gmI I S 12 32 + 1) = gmI I (S.n, S.k + 1, S.G, S.la) := by
        rw [show gmI I S 12 32 + 1 = nI (S.k + 1) from nI_1 _]
        exact up2_up2 _ _ _ _ _
      refine hK (59, 142, o_M_surges_2) (List.mem_of_getElem? (i := 2) rfl) _ _ _ _ ?_
      refine And.intro (fun c => ?_) (fun c => ?_)
      · exact absurd c (nI_ge (by omega) (by omega))
      refine And.intro (by rw [e1]; exact inn_nI (by omega) (by decide)) ?_
      refine And.intro (fun c1 => ?_) (fun c1 => ?_)
      · have c1 : gmI I S 88 (120 * nI j + nI i).toNatClampNeg = -32768 := c1
        rw [e1, ec] at c1
        have h := go lv (S.n, S.k + 1, S.G, S.la) (by rw [if_pos (by rw [decide_eq_true (show shM' I j i = -32768 from c1)]; rfl)])
        rw [← k1] at h
        exact h
      have c1 : ¬ gmI I S 88 (120 * nI j + nI i).toNatClampNeg = -32768 := c1
      rw [e1, ec] at c1
      refine And.intro (hj10) ?_
      rw [hjc]
      refine call_eq (c_M_momentOf g (d + 1) (gmI I S) (gmD D lv S.G) j hj (nI i)) ?_
      refine call_eq (c_M_rises g d (gmI I S) (gmD D lv S.G) _ _ _ n hn hI hw) ?_
      by_cases c2 : sfM I (I 83 j) (moM I j i) (I 12 0) n = -1
      · rw [show (if ifF (gmI I S 75) (gmI I S 76) (gmI I S 77) (gmI I S 83 j) (gmI I S 84 j + nI i * gmI I S 85 j) (gmI I S 12 0) n = -1 then gmD D lv S.G else up2 (gmD D lv S.G) 12 17 (hgtM (gmI I S) n (gmI I S 83 j) (gmI I S 84 j + nI i * gmI I S 85 j) (gmI I S 12 0))) = gmD D lv S.G from if_pos c2]
        rw [show decide (ifF (gmI I S 75) (gmI I S 76) (gmI I S 77) (gmI I S 83 j) (gmI I S 84 j + nI i * gmI I S 85 j) (gmI I S 12 0) n = -1) = true from decide_eq_true c2]
        refine And.intro (fun z => absurd rfl z) (fun _ => ?_)
        have h := go lv (S.n, S.k + 1, S.G, S.la) (by rw [if_pos (by rw [show noM I n j (moM I j i) = true from decide_eq_true c2, Bool.or_true])])
        rw [← k1] at h
        exact h
      · rw [show (if ifF (gmI I S 75) (gmI I S 76) (gmI I S 77) (gmI I S 83 j) (gmI I S 84 j + nI i * gmI I S 85 j) (gmI I S 12 0) n = -1 then gmD D lv S.G else up2 (gmD D lv S.G) 12 17 (hgtM (gmI I S) n (gmI I S 83 j) (gmI I S 84 j + nI i * gmI I S 85 j) (gmI I S 12 0))) = gmD D (hhM I n j (moM I j i)) S.G from (if_neg c2).trans (up2_up2 _ _ _ _ _)]
        rw [show decide (ifF (gmI I S 75) (gmI I S 76) (gmI I S 77) (gmI I S 83 j) (gmI I S 84 j + nI i * gmI I S 85 j) (gmI I S 12 0) n = -1) = false from decide_eq_false c2]
        refine And.intro (fun _ => ?_) (fun z => absurd z (by decide))
        refine And.intro (fb_n (mn_fb _)) ?_
        refine And.intro (fb_n (ofM_fb I hn hw _ _ _ _ c2)) ?_
        rw [e1, ec]
        have h := go (hhM I n j (moM I j i)) _ rfl
        rw [if_neg (by rw [decide_eq_false (show ¬ shM' I j i = -32768 from c1), show noM I n j (moM I j i) = false from decide_eq_false c2]; decide)] at h
        exact ins S i _ _ (by omega) h S.n S.G (Nat.le_refl _) rfl
  have start : K 59 [(0, .ref 12), (1, .int (nI j)), (2, .int t), (3, .int (nI e)), (4, .int 0), (5, .int 0), (6, .int (nI (e - tk)))] [] (up2 I 12 32 0) D := by
    have go := loop2 (e - (e - tk)) 0 (D 12 17) (by omega) _ rfl
    rw [Nat.add_zero] at go
    have eD : gmD D (D 12 17) (D 90) = D := by
      unfold gmD
      rw [upc_self]
      exact up2_same _ _ _
    have go : K 59 [(0, .ref 12), (1, .int (nI j)), (2, .int t), (3, .int (nI e)), (4, .int 0), (5, .int 0), (6, .int (nI (e - tk)))] [] (up2 I 12 32 0) (gmD D (D 12 17) (D 90)) := go
    rw [eD] at go
    exact go
  have exit : ∀ i, i = e → (nI i ≥ I 12 26 → K 59 [(0, .ref 12), (1, .int (nI j)), (2, .int t), (3, .int (nI i)), (4, .int 0), (5, .int 0), (6, .int (nI i - I 12 26))] [] (up2 I 12 32 0) D) ∧ (¬ nI i ≥ I 12 26 → K 59 [(0, .ref 12), (1, .int (nI j)), (2, .int t), (3, .int (nI i)), (4, .int 0), (5, .int 0), (6, .int 0)] [] (up2 I 12 32 0) D) := by
    intro i hi
    subst hi
    rw [htk]
    refine And.intro (fun c => ?_) (fun c => ?_)
    · have c6 : tk ≤ i := by
        rcases Nat.lt_or_ge i tk with h | h
        · exact absurd c (nI_nlx h (by omega))
        · exact h
      rw [nI_sub c6]
      exact start
    · have c6 : i - tk = 0 := by
        rcases Nat.lt_or_ge i tk with h | h
        · omega
        · exact absurd (nI_le h (by omega)) c
      rw [c6] at start
      exact start
  have loop1 : ∀ r i, i + r = z → enF (moM I j) t r i = e → K 2 [(0, .ref 12), (1, .int (nI j)), (2, .int t), (3, .int (nI i))] [] I D := by
    intro r
    induction r with
    | zero =>
      intro i hi hEi
      have hie : i = e := hEi
      refine hK (2, 59, o_M_surges_1) (List.mem_of_getElem? (i := 1) rfl) _ _ _ _ ?_
      refine And.intro (hj10) ?_
      rw [hjc, hS]
      refine And.intro (fun c => ?_) (fun c => ?_)
      · exact exit i hie
      · exact absurd (nI_le (by omega) (by omega)) c
    | succ r ih =>
      intro i hi hEi
      refine hK (2, 59, o_M_surges_1) (List.mem_of_getElem? (i := 1) rfl) _ _ _ _ ?_
      refine And.intro (hj10) ?_
      rw [hjc, hS]
      refine And.intro (fun c => ?_) (fun c => ?_)
      · exact absurd c (nI_ge (by omega) (by omega))
      refine call_eq (c_M_momentOf g (d + 1) I D j hj (nI i)) ?_
      refine And.intro (fun c2 => ?_) (fun c2 => ?_)
      · have hie : i = e := by
          rw [enF, if_neg (i32_nle.mpr c2)] at hEi
          exact hEi
        exact exit i hie
      · have go := ih (i + 1) (by omega) (by rw [enF, if_pos (i32_nlt.mp c2)] at hEi; exact hEi)
        rw [nI_succ] at go
        exact go
  refine hK (0, 2, o_M_surges_0) (List.mem_of_getElem? (i := 0) rfl) _ _ _ _ ?_
  exact loop1 z 0 (by omega) hE
end S46
