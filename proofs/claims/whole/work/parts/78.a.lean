/-! the turns of plan() -/
/-- what waits since, what starts, its paces, the findings, the trace, how many started -/
abbrev Pn : Type := (Nat → Int32) × (Nat → Int32) × (Nat → Int32) × Fi × Tr × Nat
def lwF (sn wt : Nat → Int32) : Nat → Int32
  | 0 => -1
  | i + 1 => if ¬ wt i = 0 ∧ (lwF sn wt i = -1 ∨ sn i < sn (lwF sn wt i).toNatClampNeg) then nI i else lwF sn wt i
theorem lwF_c (sn wt : Nat → Int32) : ∀ i, i ≤ 40 → lwF sn wt i = -1 ∧ (∀ q, q < i → wt q = 0) ∨ ∃ q, q < i ∧ lwF sn wt i = nI q ∧ ¬ wt q = 0
  | 0, _ => Or.inl ⟨rfl, fun q hq => absurd hq (Nat.not_lt_zero _)⟩
  | i + 1, hi => by
    unfold lwF
    split
    next h => exact Or.inr ⟨i, Nat.lt_succ_self _, rfl, h.1⟩
    next h =>
      rcases lwF_c sn wt i (by omega) with ⟨z, hz⟩ | ⟨q, hq, z, hz⟩
      · refine Or.inl ⟨z, fun q hq => ?_⟩
        rcases Nat.lt_or_ge q i with w | w
        · exact hz q w
        · have : q = i := by omega
          subst this
          exact Decidable.byContradiction (fun y => h ⟨y, Or.inl z⟩)
      · exact Or.inr ⟨q, by omega, z, hz⟩
def pk1 (r3 : AskR) (se : Nat × Int32) (bs : List Int32) (pc : Int32) (f p : Nat) (S : Pn) : Pn :=
  if ¬ r3.1 = 0 then (up1 S.1 p 0, S.2.1, S.2.2.1, (S.2.2.2.1.1 + 1, r3.1), begsT S.2.2.2.2.1 r3.2.2, S.2.2.2.2.2)
  else if se.2 = 1 then (up1 S.1 p 0, up1 S.2.1 p (nI (f + se.1 - 1)), up1 S.2.2.1 p pc, S.2.2.2.1, bsT (begsT S.2.2.2.2.1 r3.2.2) bs se.1, S.2.2.2.2.2 + 1)
  else (up1 S.1 p 0, S.2.1, S.2.2.1, telF se.2 S.2.2.2.1, bsT (begsT S.2.2.2.2.1 r3.2.2) bs se.1, S.2.2.2.2.2)
def pkF (r3 : Nat → AskR) (bs : Nat → List Int32) (pc : Nat → Int32) (mn : Nat → Nat → Int32) (fr : (Nat → Int32) → (Nat → Int32) → Nat → Nat → Bool) (fs : Nat → Nat) (p : Nat) (S : Pn) : Pn := pk1 (r3 p) (seF (mn p) (fr S.2.1 S.2.2.1 p) (cntF (fs p) (r3 p).2.1) (fs p)) (bs p) (pc p) (fs p) p S
def paF (sn : Nat → Int32) (np : Nat) (st : Nat → Pn → Pn) (S : Pn) : Pn := if lwF sn S.1 np = -1 then S else st (lwF sn S.1 np).toNatClampNeg S
def paN (sn : Nat → Int32) (np : Nat) (st : Nat → Pn → Pn) (S : Pn) : Nat → Pn
  | 0 => S
  | i + 1 => paF sn np st (paN sn np st S i)
theorem paN_stop {sn : Nat → Int32} {np : Nat} {st : Nat → Pn → Pn} {S : Pn} {i : Nat} (h : lwF sn (paN sn np st S i).1 np = -1) : ∀ k, paN sn np st S (i + k) = paN sn np st S i
  | 0 => rfl
  | k + 1 => by
    show paF sn np st (paN sn np st S (i + k)) = _
    rw [paN_stop h k]
    unfold paF
    rw [if_pos h]
/-- how many wait -/
def cwF (wt : Nat → Int32) : Nat → Nat
  | 0 => 0
  | i + 1 => cwF wt i + if wt i = 0 then 0 else 1
theorem cwF_le (wt : Nat → Int32) : ∀ i, cwF wt i ≤ i
  | 0 => Nat.le_refl _
  | i + 1 => by
    have := cwF_le wt i
    unfold cwF
    split <;> omega
theorem cwF_up (wt : Nat → Int32) (q : Nat) : ∀ i, i ≤ q → cwF (up1 wt q 0) i = cwF wt i
  | 0, _ => rfl
  | i + 1, h => by
    unfold cwF
    rw [cwF_up wt q i (by omega)]
    have : up1 wt q 0 i = wt i := by unfold up1; rw [if_neg (by omega)]
    rw [this]
theorem cwF_dn (wt : Nat → Int32) (q : Nat) (hq : ¬ wt q = 0) : ∀ i, q < i → cwF (up1 wt q 0) i + 1 = cwF wt i
  | 0, h => absurd h (Nat.not_lt_zero _)
  | i + 1, h => by
    unfold cwF
    by_cases e : i = q
    · subst e
      rw [cwF_up wt i i (Nat.le_refl _), if_neg hq, show up1 wt i 0 i = 0 by unfold up1; rw [if_pos rfl], if_pos rfl]
    · have : up1 wt q 0 i = wt i := by unfold up1; rw [if_neg e]
      rw [this, ← cwF_dn wt q hq i (by omega)]
      omega
theorem pkF_1 (r3 : Nat → AskR) (bs : Nat → List Int32) (pc : Nat → Int32) (mn : Nat → Nat → Int32) (fr : (Nat → Int32) → (Nat → Int32) → Nat → Nat → Bool) (fs : Nat → Nat) (p : Nat) (S : Pn) : (pkF r3 bs pc mn fr fs p S).1 = up1 S.1 p 0 := by
  unfold pkF pk1
  split
  · rfl
  · split <;> rfl
theorem pkF_T {r3 : Nat → AskR} {bs : Nat → List Int32} {pc : Nat → Int32} {mn : Nat → Nat → Int32} {fr : (Nat → Int32) → (Nat → Int32) → Nat → Nat → Bool} {fs : Nat → Nat} {p : Nat} {S : Pn} (h : S.2.2.2.2.1.1 ≤ 100) : (pkF r3 bs pc mn fr fs p S).2.2.2.2.1.1 ≤ 100 := by
  unfold pkF pk1
  split
  · exact begsT_le _ h
  · split <;> exact bsT_le (begsT_le _ h) _ _
theorem seF_1 (mn : Nat → Int32) (fr : Nat → Bool) : ∀ q m, (seF mn fr q m).2 = 1 → 1 ≤ (seF mn fr q m).1 ∧ mn (m + (seF mn fr q m).1 - 1) = 1 ∧ (seF mn fr q m).1 ≤ q
  | 0, m => fun h => absurd (show (0 : Int32) = 1 from h) (by decide)
  | q + 1, m => by
    unfold seF
    split
    next h =>
      intro z
      have z : mn m = 1 := z
      rw [z] at h
      exact absurd h (by decide)
    · split
      next h => exact fun _ => ⟨Nat.le_refl _, h.1, by show 1 ≤ q + 1; omega⟩
      · intro z
        have := seF_1 mn fr q (m + 1) z
        refine ⟨by show 1 ≤ (seF mn fr q (m + 1)).1 + 1; omega, ?_, by show (seF mn fr q (m + 1)).1 + 1 ≤ q + 1; omega⟩
        rw [← this.2.1]
        show mn (m + ((seF mn fr q (m + 1)).1 + 1) - 1) = _
        congr 1
        omega
theorem cm_ok {t ds pc : Int32} (h : ¬ cmF t ds pc = -3) : cmF t ds pc = t + ds * 100 / pc := by
  unfold cmF at h ⊢
  split at h
  · exact absurd rfl h
  next z =>
    rw [if_neg z]
    split at h
    next y => rw [if_pos y]
    · exact absurd rfl h
theorem tm_1 (co lg : Nat → Int32) : ∀ (k i : Nat), (∀ j, i ≤ j → j < i + k → lg j = 0 ∨ lg j = 1 ∨ lg j = -1 ∨ lg j = -7 ∨ lg j = -2) → tmF co lg k i = 1 → ∀ j, i ≤ j → j < i + k → ¬ co j = -3
  | 0, i => fun _ _ j h1 h2 => by omega
  | k + 1, i => by
    intro hj ht
    unfold tmF at ht
    split at ht
    · exact absurd ht (by decide)
    next hc =>
      split at ht
      · intro j h1 h2
        rcases Nat.eq_or_lt_of_le h1 with z | z
        · rw [← z]; exact hc
        · exact tm_1 co lg k (i + 1) (fun j h1 h2 => hj j (by omega) (by omega)) ht j (by omega) (by omega)
      next h =>
        exfalso
        rcases hj i (by omega) (by omega) with q | q | q | q | q
        · rw [q] at ht; exact absurd ht (by decide)
        · exact absurd q h
        · rw [q] at ht; exact absurd ht (by decide)
        · rw [q] at ht; exact absurd ht (by decide)
        · rw [q] at ht; exact absurd ht (by decide)
section S78
variable (g : Gp) (d : Nat) (I : MI) (D : MD)
theorem min_1X {n m tk fd b r : Nat} {s mi w : Int32} (hR : RX I) (hr : r < 6) (h : minX I n m tk fd b r s mi w = 1) : ∀ j, j < (I 50 r).toNatClampNeg → coX I r mi (askX I 2 5 s).2.1 j = 60 * mi + I 52 (4 * r + j) * 100 / (askX I 2 5 s).2.1 := by
  obtain ⟨l, hl, hle, hlg⟩ := hR r hr
  intro j hj
  refine cm_ok ?_
  unfold minX miF at h
  split at h
  next h0 =>
    exfalso
    rcases askF_c (I 42) (I 43) (I 44) (I 45) (I 46) (I 47) 0 5 s with q | q | q
    · exact absurd q h0
    · rw [q] at h; exact absurd h (by decide)
    · rw [q] at h; exact absurd h (by decide)
  · split at h
    next h0 =>
      exfalso
      rcases askF_c (I 42) (I 43) (I 44) (I 45) (I 46) (I 47) 2 5 s with q | q | q
      · exact absurd q h0
      · rw [q] at h; exact absurd h (by decide)
      · rw [q] at h; exact absurd h (by decide)
    · split at h
      next h0 =>
        exfalso
        rcases askF_c (I 42) (I 43) (I 44) (I 45) (I 46) (I 47) 4 5 s with q | q | q
        · exact absurd q h0
        · rw [q] at h; exact absurd h (by decide)
        · rw [q] at h; exact absurd h (by decide)
      · split at h
        · exact absurd h (by decide)
        · refine tm_1 _ _ _ 0 (fun j _ hj => ?_) h j (Nat.zero_le _) (by omega)
          rw [hle, nI_clamp (by omega)] at hj
          obtain ⟨q, s', a, hq, hqe, hs', hse, -⟩ := hlg j (by omega)
          exact lgXf_c I n m tk fd b _ _ _ _ _ ⟨s', hs', by rw [hqe, nI_clamp (show q < 2 ^ 31 by omega)]; exact hse⟩
theorem c_X_longest (n : Nat) (hn : n ≤ 40) (hN : I 11 13 = nI n) : Con g SHc d 128 [.ref 11] I D (EqP (some (.int (lwF (I 65) (I 67) n))) I D) := by
  refine Con.mk (LV := v_Passages_longestWaiting) k_Passages_longestWaiting (Nat.le_of_ble_eq_true rfl) (fun K hK => ?_)
  have loop : ∀ k i, i + k = n → K 4 [(0, .ref 11), (1, .int (lwF (I 65) (I 67) i)), (2, .int (nI i))] [] I D := by
    intro k
    induction k with
    | zero =>
      intro i hi
      have hi : i = n := by omega
      subst hi
      refine hK (4, 51, o_Passages_longestWaiting_1) (List.mem_of_getElem? (i := 1) rfl) _ _ _ _ ?_
      refine And.intro (fun c => ?_) (fun c => ?_)
      · exact And.intro rfl (And.intro rfl rfl)
      · rw [hN] at c
        exact absurd (nI_le (Nat.le_refl _) (by omega)) c
    | succ k ih =>
      intro i hi
      have hi40 : inn (nI i) 40 := inn_nI (by omega) (by decide)
      have ic : (nI i).toNatClampNeg = i := nI_clamp (by omega)
      have go := ih (i + 1) (by omega)
      rw [nI_succ, show lwF (I 65) (I 67) (i + 1) = if ¬ I 67 i = 0 ∧ (lwF (I 65) (I 67) i = -1 ∨ I 65 i < I 65 (lwF (I 65) (I 67) i).toNatClampNeg) then nI i else lwF (I 65) (I 67) i from rfl] at go
      have hc := lwF_c (I 65) (I 67) i (by omega)
      have hin : ¬ lwF (I 65) (I 67) i = -1 → inn (lwF (I 65) (I 67) i) 40 := by
        intro c2
        rcases hc with ⟨z, -⟩ | ⟨q, hq, z, -⟩
        · exact absurd z c2
        · rw [z]; exact inn_nI (by omega) (by decide)
      refine hK (4, 51, o_Passages_longestWaiting_1) (List.mem_of_getElem? (i := 1) rfl) _ _ _ _ ?_
      refine And.intro (fun c => ?_) (fun c => ?_)
      · rw [hN] at c
        exact absurd c (nI_ge (by omega) (by omega))
      refine And.intro (hi40) ?_
      refine And.intro (fun c1 => ?_) (fun c1 => ?_)
      · rw [ic] at c1
        rw [if_neg (fun z => z.1 c1)] at go
        exact go
      rw [ic] at c1
      refine And.intro (fun c2 => ?_) (fun c2 => ?_)
      · rw [if_pos ⟨c1, Or.inl c2⟩] at go
        exact go
      refine And.intro (hi40) ?_
      refine And.intro (hin c2) ?_
      refine And.intro (fun c3 => ?_) (fun c3 => ?_)
      · rw [ic] at c3
        rw [if_neg (fun z => z.2.elim c2 (fun y => absurd y (i32_nlt.mpr c3)))] at go
        exact go
      · rw [ic] at c3
        rw [if_pos ⟨c1, Or.inr (i32_nle.mp c3)⟩] at go
        exact go
  refine hK (0, 4, o_Passages_longestWaiting_0) (List.mem_of_getElem? (i := 0) rfl) _ _ _ _ ?_
  exact loop n 0 (by omega)
end S78
