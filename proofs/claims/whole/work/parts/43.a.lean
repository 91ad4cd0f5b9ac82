def up1 {α : Type} (G : Nat → α) (j : Nat) (v : α) : Nat → α := fun b => if b = j then v else G b
/-- a whole cell by a function -/
def upc {α : Type} (f : Nat → Nat → α) (k : Nat) (G : Nat → α) : Nat → Nat → α := fun a => match Nat.beq a k with
  | true => G
  | false => f a
theorem upc_at {α : Type} (f : Nat → Nat → α) (k : Nat) (G : Nat → α) (a b : Nat) : upc f k G a b = if a = k then G b else f a b := by
  unfold upc
  cases h : Nat.beq a k with
  | true => rw [if_pos (Nat.eq_of_beq_eq_true h)]
  | false => rw [if_neg (Nat.ne_of_beq_eq_false h)]
theorem upc_up2 {α : Type} (f : Nat → Nat → α) (k j : Nat) (G : Nat → α) (v : α) : up2 (upc f k G) k j v = upc f k (up1 G j v) := by
  funext a b
  rw [up2_at2, upc_at, upc_at]
  unfold up1
  by_cases h : a = k
  · simp [h]
  · simp [h]
theorem upc_self {α : Type} (f : Nat → Nat → α) (k : Nat) : upc f k (f k) = f := by
  funext a b
  rw [upc_at]
  by_cases h : a = k
  · rw [if_pos h, h]
  · rw [if_neg h]
theorem upc_upc {α : Type} (f : Nat → Nat → α) (k : Nat) (G H : Nat → α) : upc (upc f k G) k H = upc f k H := by
  funext a b
  rw [upc_at, upc_at, upc_at]
  by_cases h : a = k
  · rw [if_pos h, if_pos h]
  · rw [if_neg h, if_neg h, if_neg h]
theorem dcmp_swap {a b : UInt64} : FP.dcmp a b = some .gt ↔ FP.dcmp b a = some .lt := by
  have h1 := FP.Core.dcmp_gt (a := a) (b := b)
  have h2 := FP.Core.dcmp_lt (a := b) (b := a)
  constructor
  · intro h
    have := h1.mp h
    exact h2.mpr ⟨this.2.1, this.1, this.2.2⟩
  · intro h
    have := h2.mp h
    exact h1.mpr ⟨this.2.1, this.1, this.2.2⟩
/-- x is put among what lies by size below p -/
def insG (x : UInt64) (G : Nat → UInt64) : Nat → (Nat → UInt64)
  | 0 => up1 G 0 x
  | p + 1 => if FP.dcmp x (G p) = some .lt then insG x (up1 G (p + 1) (G p)) p else up1 G (p + 1) x
theorem insG_off {x : UInt64} : ∀ (p : Nat) (G : Nat → UInt64) (j : Nat), p < j → insG x G p j = G j
  | 0, G, j, h => by
    show (if j = 0 then x else G j) = G j
    rw [if_neg (by omega)]
  | p + 1, G, j, h => by
    unfold insG
    split
    · rw [insG_off p _ j (by omega)]
      show (if j = p + 1 then _ else G j) = G j
      rw [if_neg (by omega)]
    · show (if j = p + 1 then x else G j) = G j
      rw [if_neg (by omega)]
theorem insG_all {P : UInt64 → Prop} {x : UInt64} (hx : P x) : ∀ (p : Nat) (G : Nat → UInt64), (∀ j, j < p → P (G j)) → ∀ j, j < p + 1 → P (insG x G p j)
  | 0, G, h, j, hj => by
    show P (if j = 0 then x else G j)
    rw [if_pos (by omega)]
    exact hx
  | p + 1, G, h, j, hj => by
    unfold insG
    split
    · rcases Nat.lt_or_ge j (p + 1) with h1 | h1
      · refine insG_all hx p _ ?_ j h1
        intro i hi
        show P (if i = p + 1 then _ else G i)
        rw [if_neg (by omega)]
        exact h i (by omega)
      · rw [insG_off p _ j (by omega)]
        show P (if j = p + 1 then _ else G j)
        rw [if_pos (by omega)]
        exact h p (by omega)
    · show P (if j = p + 1 then x else G j)
      split
      · exact hx
      · exact h j (by omega)
theorem insG_eq {x : UInt64} : ∀ (p : Nat) (G H : Nat → UInt64), (∀ j, j < p → G j = H j) → ∀ j, j < p + 1 → insG x G p j = insG x H p j
  | 0, G, H, h, j, hj => by
    show (if j = 0 then x else G j) = (if j = 0 then x else H j)
    rw [if_pos (by omega), if_pos (by omega)]
  | p + 1, G, H, h, j, hj => by
    unfold insG
    rw [h p (by omega)]
    split
    · rcases Nat.lt_or_ge j (p + 1) with h1 | h1
      · refine insG_eq p _ _ ?_ j h1
        intro i hi
        show (if i = p + 1 then _ else G i) = (if i = p + 1 then _ else H i)
        rw [if_neg (by omega), if_neg (by omega)]
        exact h i (by omega)
      · rw [insG_off p _ j (by omega), insG_off p _ j (by omega)]
        show (if j = p + 1 then _ else G j) = (if j = p + 1 then _ else H j)
        rw [if_pos (by omega), if_pos (by omega)]
    · show (if j = p + 1 then x else G j) = (if j = p + 1 then x else H j)
      split
      · rfl
      · exact h j (by omega)
/-- how many READINGS lie not after t -/
def enF (mo : Nat → Int32) (t : Int32) : Nat → Nat → Nat
  | 0, i => i
  | r + 1, i => if mo i ≤ t then enF mo t r (i + 1) else i
theorem enF_le (mo : Nat → Int32) (t : Int32) : ∀ r i, enF mo t r i ≤ i + r
  | 0, i => Nat.le_refl _
  | r + 1, i => by
    unfold enF
    split
    · have := enF_le mo t r (i + 1)
      omega
    · omega
abbrev Srg : Type := Nat × Nat × (Nat → UInt64) × Int32
abbrev Srg.n (z : Srg) : Nat := z.1
abbrev Srg.k (z : Srg) : Nat := z.2.1
abbrev Srg.G (z : Srg) : Nat → UInt64 := z.2.2.1
abbrev Srg.la (z : Srg) : Int32 := z.2.2.2
/-- what a SURGE is made of, after r READINGS from st on -/
def sgF (mo sh : Nat → Int32) (no : Int32 → Bool) (hg : Int32 → UInt64) (G0 : Nat → UInt64) (la0 : Int32) (st : Nat) : Nat → Srg
  | 0 => ⟨0, 0, G0, la0⟩
  | r + 1 => if (decide (sh (st + r) = -32768) || no (mo (st + r))) = true then ⟨(sgF mo sh no hg G0 la0 st r).n, (sgF mo sh no hg G0 la0 st r).k + 1, (sgF mo sh no hg G0 la0 st r).G, (sgF mo sh no hg G0 la0 st r).la⟩
    else ⟨(sgF mo sh no hg G0 la0 st r).n + 1, (sgF mo sh no hg G0 la0 st r).k, insG (FP.dsub (FP.ddiv (FP.i2d (sh (st + r))) 4636737291354636288) (hg (mo (st + r)))) (sgF mo sh no hg G0 la0 st r).G (sgF mo sh no hg G0 la0 st r).n, mo (st + r)⟩
theorem sgF_n (mo sh : Nat → Int32) (no : Int32 → Bool) (hg : Int32 → UInt64) (G0 : Nat → UInt64) (la0 : Int32) (st : Nat) : ∀ r, (sgF mo sh no hg G0 la0 st r).n + (sgF mo sh no hg G0 la0 st r).k = r
  | 0 => rfl
  | r + 1 => by
    have := sgF_n mo sh no hg G0 la0 st r
    unfold sgF
    split
    · exact (show (sgF mo sh no hg G0 la0 st r).n + ((sgF mo sh no hg G0 la0 st r).k + 1) = r + 1 by omega)
    · exact (show (sgF mo sh no hg G0 la0 st r).n + 1 + (sgF mo sh no hg G0 la0 st r).k = r + 1 by omega)
theorem sgF_all {P : UInt64 → Prop} (mo sh : Nat → Int32) (no : Int32 → Bool) (hg : Int32 → UInt64) (G0 : Nat → UInt64) (la0 : Int32) (st : Nat) (hP : ∀ i, no (mo i) = false → P (FP.dsub (FP.ddiv (FP.i2d (sh i)) 4636737291354636288) (hg (mo i)))) : ∀ r j, j < (sgF mo sh no hg G0 la0 st r).n → P ((sgF mo sh no hg G0 la0 st r).G j)
  | 0, j, h => absurd h (Nat.not_lt_zero _)
  | r + 1, j, h => by
    unfold sgF at h ⊢
    split
    next c =>
      rw [if_pos c] at h
      exact sgF_all mo sh no hg G0 la0 st hP r j h
    next c =>
      rw [if_neg c] at h
      refine insG_all (hP _ ?_) _ _ (sgF_all mo sh no hg G0 la0 st hP r) j h
      cases h2 : no (mo (st + r)) with
      | false => rfl
      | true => exact absurd (by rw [h2, Bool.or_true]) c
theorem sgF_eq (mo sh : Nat → Int32) (no : Int32 → Bool) (hg : Int32 → UInt64) (G0 H0 : Nat → UInt64) (la0 lb0 : Int32) (st : Nat) : ∀ r, (sgF mo sh no hg G0 la0 st r).n = (sgF mo sh no hg H0 lb0 st r).n ∧ (sgF mo sh no hg G0 la0 st r).k = (sgF mo sh no hg H0 lb0 st r).k ∧ (0 < (sgF mo sh no hg G0 la0 st r).n → (sgF mo sh no hg G0 la0 st r).la = (sgF mo sh no hg H0 lb0 st r).la) ∧ (∀ j, j < (sgF mo sh no hg G0 la0 st r).n → (sgF mo sh no hg G0 la0 st r).G j = (sgF mo sh no hg H0 lb0 st r).G j)
  | 0 => ⟨rfl, rfl, fun h => absurd h (Nat.lt_irrefl _), fun j h => absurd h (Nat.not_lt_zero _)⟩
  | r + 1 => by
    obtain ⟨h1, h2, h3, h4⟩ := sgF_eq mo sh no hg G0 H0 la0 lb0 st r
    unfold sgF
    split
    · exact ⟨h1, congrArg (· + 1) h2, h3, h4⟩
    · refine ⟨congrArg (· + 1) h1, h2, fun _ => rfl, ?_⟩
      intro j hj
      show insG _ _ _ j = insG _ _ _ j
      rw [← h1]
      exact insG_eq _ _ _ h4 j hj
theorem nI_pred' (p : Nat) : nI (p + 1) + -1 = nI p := by
  rw [← nI_pred p]
  exact (Int32.sub_eq_add_neg _ _).symm
theorem nI_nle0 {p : Nat} (h0 : 0 < p) (h : p < 2 ^ 31) : ¬ nI p ≤ 0 := by
  intro c
  rw [i32_le, nI_toInt h, show ((0 : Int32)).toInt = 0 by decide] at c
  omega
section S43
variable (g : Gp) (d : Nat) (I : MI) (D : MD)
theorem c_X_keepBySize (n : Nat) (hn : n < 9) (hI : I 3 12 = nI n) (x : UInt64) : Con g SHc d 38 [.ref 3, .double x] I D (EqP none (up2 I 3 12 (nI (n + 1))) (upc D 29 (insG x (D 29) n))) := by
  refine Con.mk (LV := v_Gauges_keepBySize) k_Gauges_keepBySize (Nat.le_of_ble_eq_true rfl) (fun K hK => ?_)
  have e1 : I 3 12 + 1 = nI (n + 1) := by rw [hI]; exact nI_1 n
  have loop : ∀ (p : Nat) (G : Nat → UInt64), p ≤ n → insG x G p = insG x (D 29) n → K 5 [(0, .ref 3), (1, .double x), (3, .int (nI p))] [] I (upc D 29 G) := by
    intro p
    induction p with
    | zero =>
      intro G hp hG
      refine hK (5, 60, o_Gauges_keepBySize_1) (List.mem_of_getElem? (i := 1) rfl) _ _ _ _ ?_
      refine And.intro (fun c => ?_) (fun c => ?_)
      · refine And.intro (inn_nI (by omega) (by decide)) ?_
        rw [nI_clamp (show 0 < 2 ^ 31 by decide)]
        refine And.intro rfl (And.intro (congrArg (up2 I 3 12) e1) ?_)
        rw [← hG]
        exact upc_up2 _ _ _ _ _
      · exact absurd (show nI 0 ≤ 0 by decide) c
    | succ p ih =>
      intro G hp hG
      have hpos : ¬ nI (p + 1) ≤ 0 := nI_nle0 (by omega) (by omega)
      refine hK (5, 60, o_Gauges_keepBySize_1) (List.mem_of_getElem? (i := 1) rfl) _ _ _ _ ?_
      refine And.intro (fun c => ?_) (fun c => ?_)
      · exact absurd c hpos
      refine And.intro (by rw [nI_pred]; exact inn_nI (by omega) (by decide)) ?_
      refine And.intro (fun c2 => ?_) (fun c2 => ?_)
      · have c2 : Op.cmpValue (FP.dcmp (upc D 29 G 29 (nI (p + 1) - 1).toNatClampNeg) x) .l ≤ 0 := c2
        rw [nI_pred, nI_clamp (show p < 2 ^ 31 by omega)] at c2
        have c3 : ¬ FP.dcmp x (G p) = some .lt := by
          intro h
          rw [show FP.dcmp (upc D 29 G 29 p) x = some .gt from dcmp_swap.mpr h] at c2
          exact absurd c2 (by decide)
        refine And.intro (inn_nI (by omega) (by decide)) ?_
        rw [nI_clamp (show p + 1 < 2 ^ 31 by omega)]
        refine And.intro rfl (And.intro (congrArg (up2 I 3 12) e1) ?_)
        rw [← hG]
        unfold insG
        rw [if_neg c3]
        exact upc_up2 _ _ _ _ _
      · have c2 : ¬ Op.cmpValue (FP.dcmp (upc D 29 G 29 (nI (p + 1) - 1).toNatClampNeg) x) .l ≤ 0 := c2
        rw [nI_pred, nI_clamp (show p < 2 ^ 31 by omega)] at c2
        have c3 : FP.dcmp x (G p) = some .lt := by
          refine dcmp_swap.mp ?_
          have c2 : ¬ Op.cmpValue (FP.dcmp (G p) x) .l ≤ 0 := c2
          cases h : FP.dcmp (G p) x with
          | none => rw [h] at c2; exact absurd (by decide) c2
          | some o =>
            rw [h] at c2
            cases o with
            | lt => exact absurd (by decide) c2
            | eq => exact absurd (by decide) c2
            | gt => rfl
        refine And.intro (by rw [nI_pred]; exact inn_nI (by omega) (by decide)) ?_
        refine And.intro (inn_nI (by omega) (by decide)) ?_
        have go := ih (up1 G (p + 1) (G p)) (by omega) (by rw [← hG]; conv => rhs; unfold insG; rw [if_pos c3])
        rw [← upc_up2] at go
        rw [nI_pred, nI_clamp (show p < 2 ^ 31 by omega), nI_clamp (show p + 1 < 2 ^ 31 by omega)]
        rw [← nI_pred' p] at go
        exact go
  refine hK (0, 5, o_Gauges_keepBySize_0) (List.mem_of_getElem? (i := 0) rfl) _ _ _ _ ?_
  have go := loop n (D 29) (Nat.le_refl _) rfl
  rw [upc_self, ← hI] at go
  exact go
end S43
