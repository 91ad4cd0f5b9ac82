/-! WHAT THE FUNCTION 'wp' SAYS IS WHAT THE MACHINE DOES: a row an instruction, then a stretch, then a method. -/
abbrev Gp : Type := Launch × (Nat → Nat) × (Nat → ClassId) × va_G × (Nat → Prop)
def cv (ad : Nat → Nat) : Value → Value
  | .ref k => .ref (ad k)
  | v => v
def cq (ad : Nat → Nat) (q : Nat × Value) : Nat × Value := (q.1, cv ad q.2)
theorem cv_cat (ad : Nat → Nat) (v : Value) : (cv ad v).category = v.category := by cases v <;> rfl
def fv (ad : Nat → Nat) (I : MI) (D : MD) (k j : Nat) : (Nat ⊕ Bool) → Value
  | .inl t => .ref (ad t)
  | .inr false => .int (I k j)
  | .inr true => .double (D k j)
def fvs (ad : Nat → Nat) (I : MI) (D : MD) (k : Nat) : Nat → List (Nat ⊕ Bool) → List Value
  | _, [] => []
  | j, f :: t => fv ad I D k j f :: fvs ad I D k (j + 1) t
def ent (ad : Nat → Nat) (dA : Nat → ClassId) (I : MI) (D : MD) (k : Nat) : Sh → va_E
  | .inl q => .inr (q.1, fvs ad I D k 0 q.2)
  | .inr q => .inl (dA q.1, q.2, if q.1 = 3 then .inr (.inr (.inr (.inl (D k)))) else .inl (I k))
def wld (ad : Nat → Nat) (dA : Nat → ClassId) (I : MI) (D : MD) : Nat → List Sh → va_W
  | _, [] => []
  | k, s :: t => (ad k, ent ad dA I D k s) :: wld ad dA I D (k + 1) t
theorem nth_eq {α : Type} : ∀ (l : List α) (i : Nat), nth l i = l[i]?
  | [], i => by simp [nth]
  | a :: l, 0 => by simp [nth]
  | a :: l, i + 1 => by simp [nth, nth_eq l i]
theorem fvs_get (ad : Nat → Nat) (I : MI) (D : MD) (k : Nat) : ∀ (l : List (Nat ⊕ Bool)) (j i : Nat), (fvs ad I D k j l)[i]? = l[i]?.map (fv ad I D k (j + i))
  | [], j, i => by simp [fvs]
  | f :: t, j, 0 => by simp [fvs]
  | f :: t, j, i + 1 => by
    have h := fvs_get ad I D k t (j + 1) i
    simp only [fvs, List.getElem?_cons_succ, h]
    rw [show j + 1 + i = j + (i + 1) by omega]
theorem fvs_len (ad : Nat → Nat) (I : MI) (D : MD) (k : Nat) : ∀ (l : List (Nat ⊕ Bool)) (j : Nat), (fvs ad I D k j l).length = l.length
  | [], j => rfl
  | f :: t, j => by simp [fvs, fvs_len ad I D k t (j + 1)]
theorem wld_get (ad : Nat → Nat) (dA : Nat → ClassId) (I : MI) (D : MD) : ∀ (l : List Sh) (k i : Nat), (wld ad dA I D k l)[i]? = l[i]?.map (fun s => (ad (k + i), ent ad dA I D (k + i) s))
  | [], k, i => by simp [wld]
  | f :: t, k, 0 => by simp [wld]
  | f :: t, k, i + 1 => by
    have h := wld_get ad dA I D t (k + 1) i
    simp only [wld, List.getElem?_cons_succ, h]
    rw [show k + 1 + i = k + (i + 1) by omega]
theorem wld_len (ad : Nat → Nat) (dA : Nat → ClassId) (I : MI) (D : MD) : ∀ (l : List Sh) (k : Nat), (wld ad dA I D k l).length = l.length
  | [], k => rfl
  | f :: t, k => by simp [wld, wld_len ad dA I D t (k + 1)]
theorem wld_at {ad : Nat → Nat} {dA : Nat → ClassId} {I : MI} {D : MD} {SH : List Sh} {q : Nat} {s : Sh} (h : nth SH q = some s) : (wld ad dA I D 0 SH)[q]? = some (ad q, ent ad dA I D q s) := by
  rw [wld_get, ← nth_eq, h]
  simp
theorem up2_ne {α : Type} {f : Nat → Nat → α} {k j : Nat} {v : α} {i : Nat} (h : i ≠ k) : up2 f k j v i = f i := by
  unfold up2
  split
  next hb => exact absurd (Nat.eq_of_beq_eq_true hb) h
  next => rfl
theorem up2_self {α : Type} {f : Nat → Nat → α} {k j : Nat} {v : α} : up2 f k j v k = fun b => if b = j then v else f k b := by
  unfold up2
  split
  next => rfl
  next hb => exact absurd rfl (Nat.ne_of_beq_eq_false hb)
theorem up2_row {f : MI} {k j : Nat} {v : Int32} : up2 f k j v k = upd (f k) j v := up2_self
theorem up2_rowD {f : MD} {k j : Nat} {v : UInt64} : up2 f k j v k = vf_upd (f k) j v := up2_self
theorem up2_at {α : Type} {f : Nat → Nat → α} {k j : Nat} {v : α} : up2 f k j v k j = v := by rw [up2_self]; simp
theorem up2_off {α : Type} {f : Nat → Nat → α} {k j b : Nat} {v : α} (h : b ≠ j) : up2 f k j v k b = f k b := by rw [up2_self]; simp [h]
theorem up2_at2 {α : Type} (f : Nat → Nat → α) (k j a b : Nat) (v : α) : up2 f k j v a b = if a = k ∧ b = j then v else f a b := by
  by_cases h : a = k
  · subst h
    rw [up2_self]
    simp
  · rw [up2_ne h]
    simp [h]
theorem fvs_same {ad : Nat → Nat} {I I' : MI} {D D' : MD} {k : Nat} (h : I' k = I k) (h2 : D' k = D k) : ∀ (l : List (Nat ⊕ Bool)) (j : Nat), fvs ad I' D' k j l = fvs ad I D k j l
  | [], j => rfl
  | f :: t, j => by
    have h3 := fvs_same (ad := ad) h h2 t (j + 1)
    simp only [fvs, h3]
    congr 1
    rcases f with t | b
    · rfl
    · cases b <;> simp [fv, h, h2]
theorem ent_same {ad : Nat → Nat} {dA : Nat → ClassId} {I I' : MI} {D D' : MD} {k : Nat} (h : I' k = I k) (h2 : D' k = D k) (s : Sh) : ent ad dA I' D' k s = ent ad dA I D k s := by
  rcases s with q | q
  · simp only [ent, fvs_same h h2]
  · simp only [ent, h, h2]
/-- one cell changes -/
theorem wld_set {ad : Nat → Nat} {dA : Nat → ClassId} {I I' : MI} {D D' : MD} {SH : List Sh} {q : Nat} {s : Sh} (hq : nth SH q = some s) (hI : ∀ i, i ≠ q → I' i = I i) (hD : ∀ i, i ≠ q → D' i = D i) {en : va_E} (he : en = ent ad dA I' D' q s) : (wld ad dA I D 0 SH).set q (ad q, en) = wld ad dA I' D' 0 SH := by
  apply List.ext_getElem?
  intro i
  rw [List.getElem?_set, wld_get, wld_get, wld_len]
  have hl : q < SH.length := by
    rw [nth_eq] at hq
    exact (List.getElem?_eq_some_iff.mp hq).1
  by_cases h : q = i
  · subst h
    rw [if_pos rfl, if_pos hl, ← nth_eq, hq, he]
    simp
  · rw [if_neg h]
    cases hs : SH[i]? with
    | none => rfl
    | some z =>
      simp only [Option.map_some, Nat.zero_add]
      rw [ent_same (hI i (fun x => h x.symm)) (hD i (fun x => h x.symm))]
theorem fvs_setI {ad : Nat → Nat} {I : MI} {D : MD} {k b : Nat} {fks : List (Nat ⊕ Bool)} (hb : nth fks b = some (.inr false)) (x : Int32) : (fvs ad I D k 0 fks).set b (.int x) = fvs ad (up2 I k b x) D k 0 fks := by
  apply List.ext_getElem?
  intro i
  rw [List.getElem?_set, fvs_get, fvs_get, fvs_len]
  have hl : b < fks.length := by
    rw [nth_eq] at hb
    exact (List.getElem?_eq_some_iff.mp hb).1
  by_cases h : b = i
  · subst h
    rw [if_pos rfl, if_pos hl, ← nth_eq, hb]
    simp [fv, up2_at]
  · rw [if_neg h]
    cases hs : fks[i]? with
    | none => rfl
    | some z =>
      simp only [Option.map_some, Nat.zero_add]
      rcases z with t | c
      · rfl
      · cases c
        · simp [fv, up2_off (Ne.symm h)]
        · simp [fv]
theorem fvs_setD {ad : Nat → Nat} {I : MI} {D : MD} {k b : Nat} {fks : List (Nat ⊕ Bool)} (hb : nth fks b = some (.inr true)) (x : UInt64) : (fvs ad I D k 0 fks).set b (.double x) = fvs ad I (up2 D k b x) k 0 fks := by
  apply List.ext_getElem?
  intro i
  rw [List.getElem?_set, fvs_get, fvs_get, fvs_len]
  have hl : b < fks.length := by
    rw [nth_eq] at hb
    exact (List.getElem?_eq_some_iff.mp hb).1
  by_cases h : b = i
  · subst h
    rw [if_pos rfl, if_pos hl, ← nth_eq, hb]
    simp [fv, up2_at]
  · rw [if_neg h]
    cases hs : fks[i]? with
    | none => rfl
    | some z =>
      simp only [Option.map_some, Nat.zero_add]
      rcases z with t | c
      · rfl
      · cases c
        · simp [fv]
        · simp [fv, up2_off (Ne.symm h)]
-- what the small words say
theorem lk_e : ∀ {lv : Lv} {i : Nat} {k : Value → Prop}, lk lv i k → ∃ w, (i, w) ∈ lv ∧ k w
  | [], i, k, h => h.elim
  | q :: t, i, k, h => by
    unfold lk at h
    split at h
    next hb =>
      have := Nat.eq_of_beq_eq_true hb
      subst this
      exact ⟨q.2, List.mem_cons_self, h⟩
    next hb =>
      obtain ⟨w, h1, h2⟩ := lk_e h
      exact ⟨w, List.mem_cons_of_mem _ h1, h2⟩
theorem beq_same (a b : Nat) : Nat.beq a b = (a == b) := by
  cases h : Nat.beq a b with
  | true => rw [Nat.eq_of_beq_eq_true h]; simp
  | false =>
    have := Nat.ne_of_beq_eq_false h
    simp [this]
theorem fl1_e : ∀ {lv : Lv} {i : Nat} {k : Lv → Prop}, fl1 i lv k → k (lv.filter (fun q => !(q.1 == i) && !(q.1 + 1 == i && q.2.category == 2)))
  | [], i, k, h => h
  | q :: t, i, k, h => by
    unfold fl1 at h
    rw [List.filter_cons]
    split at h
    next hb =>
      simp only [beq_same] at hb
      rw [if_pos hb]
      exact fl1_e h
    next hb =>
      simp only [beq_same] at hb
      rw [if_neg (by rw [hb]; decide)]
      exact fl1_e h
theorem fl2_e : ∀ {lv : Lv} {i : Nat} {k : Lv → Prop}, fl2 i lv k → k (lv.filter (fun q => !(q.1 == i) && (!(q.1 == i + 1) && !(q.1 + 1 == i && q.2.category == 2))))
  | [], i, k, h => h
  | q :: t, i, k, h => by
    unfold fl2 at h
    rw [List.filter_cons]
    split at h
    next hb =>
      simp only [beq_same] at hb
      rw [if_pos hb]
      exact fl2_e h
    next hb =>
      simp only [beq_same] at hb
      rw [if_neg (by rw [hb]; decide)]
      exact fl2_e h
theorem pick_e : ∀ {is : List Nat} {lv : Lv} {k : Lv → Prop}, pick is lv k → ∃ lv', k lv' ∧ ∀ q ∈ lv', q ∈ lv
  | [], lv, k, h => ⟨[], h, fun q hq => by cases hq⟩
  | i :: is, lv, k, h => by
    unfold pick at h
    obtain ⟨w, h1, h2⟩ := lk_e h
    obtain ⟨t, h3, h4⟩ := pick_e h2
    refine ⟨_, h3, fun q hq => ?_⟩
    rcases List.mem_cons.mp hq with rfl | hq
    · exact h1
    · exact h4 q hq
theorem popN_e : ∀ {n : Nat} {st acc : List Value} {k : List Value → List Value → Prop}, popN n st acc k → ∃ vs r, vs.length = n ∧ st = vs ++ r ∧ k (vs.reverse ++ acc) r
  | 0, st, acc, k, h => ⟨[], st, rfl, rfl, h⟩
  | n + 1, [], acc, k, h => h.elim
  | n + 1, v :: st, acc, k, h => by
    obtain ⟨vs, r, h1, h2, h3⟩ := popN_e (n := n) (st := st) (acc := v :: acc) h
    refine ⟨v :: vs, r, by simp [h1], by simp [h2], ?_⟩
    simpa using h3
theorem csum_e : ∀ (r : List Value), csum r = (r.map fun v => v.category).sum
  | [] => rfl
  | v :: t => by simp [csum, csum_e t]
theorem okst_e {r : List Value} {P : Prop} (h : okst r P) : csum r ≤ 8 ∧ P := by
  unfold okst at h
  split at h
  next hb => exact ⟨Nat.le_of_ble_eq_true hb, h⟩
  next => exact h.elim
theorem tI_e {st : List Value} {k : Int32 → List Value → Prop} (h : tI st k) : ∃ x r, st = .int x :: r ∧ k x r := by
  unfold tI at h; split at h
  next => exact ⟨_, _, rfl, h⟩
  next => exact h.elim
theorem tL_e {st : List Value} {k : Int64 → List Value → Prop} (h : tL st k) : ∃ x r, st = .long x :: r ∧ k x r := by
  unfold tL at h; split at h
  next => exact ⟨_, _, rfl, h⟩
  next => exact h.elim
theorem tF_e {st : List Value} {k : UInt32 → List Value → Prop} (h : tF st k) : ∃ x r, st = .float x :: r ∧ k x r := by
  unfold tF at h; split at h
  next => exact ⟨_, _, rfl, h⟩
  next => exact h.elim
theorem tD_e {st : List Value} {k : UInt64 → List Value → Prop} (h : tD st k) : ∃ x r, st = .double x :: r ∧ k x r := by
  unfold tD at h; split at h
  next => exact ⟨_, _, rfl, h⟩
  next => exact h.elim
theorem tR_e {st : List Value} {k : Nat → List Value → Prop} (h : tR st k) : ∃ x r, st = .ref x :: r ∧ k x r := by
  unfold tR at h; split at h
  next => exact ⟨_, _, rfl, h⟩
  next => exact h.elim
theorem t2I_e {st : List Value} {k : Int32 → Int32 → List Value → Prop} (h : t2I st k) : ∃ x y r, st = .int y :: .int x :: r ∧ k x y r := by
  unfold t2I at h; split at h
  next => exact ⟨_, _, _, rfl, h⟩
  next => exact h.elim
theorem t2L_e {st : List Value} {k : Int64 → Int64 → List Value → Prop} (h : t2L st k) : ∃ x y r, st = .long y :: .long x :: r ∧ k x y r := by
  unfold t2L at h; split at h
  next => exact ⟨_, _, _, rfl, h⟩
  next => exact h.elim
theorem t2F_e {st : List Value} {k : UInt32 → UInt32 → List Value → Prop} (h : t2F st k) : ∃ x y r, st = .float y :: .float x :: r ∧ k x y r := by
  unfold t2F at h; split at h
  next => exact ⟨_, _, _, rfl, h⟩
  next => exact h.elim
theorem t2D_e {st : List Value} {k : UInt64 → UInt64 → List Value → Prop} (h : t2D st k) : ∃ x y r, st = .double y :: .double x :: r ∧ k x y r := by
  unfold t2D at h; split at h
  next => exact ⟨_, _, _, rfl, h⟩
  next => exact h.elim
theorem isI_e {w : Value} {P : Prop} (h : isI w P) : ∃ x, w = .int x ∧ P := by
  unfold isI at h; split at h
  next => exact ⟨_, rfl, h⟩
  next => exact h.elim
theorem isL_e {w : Value} {P : Prop} (h : isL w P) : ∃ x, w = .long x ∧ P := by
  unfold isL at h; split at h
  next => exact ⟨_, rfl, h⟩
  next => exact h.elim
theorem isF_e {w : Value} {P : Prop} (h : isF w P) : ∃ x, w = .float x ∧ P := by
  unfold isF at h; split at h
  next => exact ⟨_, rfl, h⟩
  next => exact h.elim
theorem isD_e {w : Value} {P : Prop} (h : isD w P) : ∃ x, w = .double x ∧ P := by
  unfold isD at h; split at h
  next => exact ⟨_, rfl, h⟩
  next => exact h.elim
theorem isR_e {w : Value} {P : Prop} (h : isR w P) : ∃ x, w = .ref x ∧ P := by
  unfold isR at h; split at h
  next => exact ⟨_, rfl, h⟩
  next => exact h.elim
theorem atO_e {SH : List Sh} {k ci : Nat} {P : List (Nat ⊕ Bool) → Prop} (h : atO SH k ci P) : ∃ fks, nth SH k = some (.inl (ci, fks)) ∧ P fks := by
  unfold atO at h
  split at h
  next q hq =>
    split at h
    next hb =>
      obtain ⟨c, fks⟩ := q
      have := Nat.eq_of_beq_eq_true hb
      dsimp only at this
      subst this
      exact ⟨fks, hq, h⟩
    next => exact h.elim
  next => exact h.elim
theorem atA_e {SH : List Sh} {k t : Nat} {P : Nat → Prop} (h : atA SH k t P) : ∃ n, nth SH k = some (.inr (t, n)) ∧ P n := by
  unfold atA at h
  split at h
  next q hq =>
    split at h
    next hb =>
      obtain ⟨c, fks⟩ := q
      have := Nat.eq_of_beq_eq_true hb
      dsimp only at this
      subst this
      exact ⟨fks, hq, h⟩
    next => exact h.elim
  next => exact h.elim
theorem inn_vp {i : Int32} {n : Nat} (h : inn i n) : vp_in i n := vp_in_iff.mpr h
theorem dup1_e {st : List Value} {k : Value → List Value → Prop} (h : dup1 st k) : ∃ v r, st = v :: r ∧ v.category = 1 ∧ k v r := by
  unfold dup1 at h; split at h
  next =>
    split at h
    next hb => exact ⟨_, _, rfl, Nat.eq_of_beq_eq_true hb, h⟩
    next => exact h.elim
  next => exact h.elim
theorem dup11_e {st : List Value} {k : Value → Value → List Value → Prop} (h : dup11 st k) : ∃ v w r, st = v :: w :: r ∧ v.category = 1 ∧ w.category = 1 ∧ k v w r := by
  unfold dup11 at h; split at h
  next =>
    split at h
    next hb hc => exact ⟨_, _, _, rfl, Nat.eq_of_beq_eq_true hb, Nat.eq_of_beq_eq_true hc, h⟩
    next => exact h.elim
  next => exact h.elim
