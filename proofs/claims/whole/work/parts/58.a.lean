/-! THE TRACE, and what SHIPS answer -/
abbrev Tr : Type := Nat × (Nat → Int32)
def begT (T : Tr) (b : Int32) : Tr := if T.1 < 100 then (T.1 + 1, up1 T.2 T.1 b) else T
def begsT (T : Tr) (bs : List Int32) : Tr := bs.foldl begT T
theorem begT_le {T : Tr} (h : T.1 ≤ 100) (b : Int32) : (begT T b).1 ≤ 100 := by
  unfold begT
  split
  next c => exact c
  next => exact h
theorem begsT_le : ∀ (bs : List Int32) {T : Tr}, T.1 ≤ 100 → (begsT T bs).1 ≤ 100
  | [], T, h => h
  | b :: bs, T, h => begsT_le bs (begT_le h b)
theorem begsT_app (T : Tr) (a b : List Int32) : begsT T (a ++ b) = begsT (begsT T a) b := List.foldl_append
def trX (I : MI) (T : Tr) : MI := up2 (upc I 49 T.2) 6 8 (nI T.1)
def trM (I : MI) (T : Tr) : MI := up2 (upc I 109 T.2) 12 57 (nI T.1)
theorem trX_push (I : MI) (T : Tr) (b : Int32) : up2 (up2 (trX I T) 49 T.1 b) 6 8 (nI (T.1 + 1)) = trX I (T.1 + 1, up1 T.2 T.1 b) := by
  unfold trX
  funext a c
  simp only [up2_at2, upc_at, up1]
  by_cases h1 : a = 49
  · subst h1; simp
  · by_cases h2 : a = 6 ∧ c = 8
    · simp [h2]
    · simp [h1, h2]
theorem trM_push (I : MI) (T : Tr) (b : Int32) : up2 (up2 (trM I T) 109 T.1 b) 12 57 (nI (T.1 + 1)) = trM I (T.1 + 1, up1 T.2 T.1 b) := by
  unfold trM
  funext a c
  simp only [up2_at2, upc_at, up1]
  by_cases h1 : a = 109
  · subst h1; simp
  · by_cases h2 : a = 12 ∧ c = 57
    · simp [h2]
    · simp [h1, h2]
def keelB (k : Int32) : List Int32 := if k = 0 then [21] else if k = 2 then [22, 21] else if k = 3 then [23, 20] else [20]
def keelV (k x : Int32) : Int32 := if k = 0 then 100 else if k = 2 then 100 + x else if k = 3 then 60 else 30
def needB (k : Int32) : List Int32 := if k = 0 ∨ k = 2 then 11 :: 10 :: keelB k else 10 :: keelB k
def needV (k dr x : Int32) : Int32 := if k = 0 ∨ k = 2 then dr + keelV k x + dr / 10 else dr + keelV k x
def paceB (k : Int32) : List Int32 := if k = 2 then [31, 30] else [30]
def paceF (k x : Int32) : Int32 := if k = 2 ∧ x = 0 then 4 else 0
def paceV (k pc x : Int32) : Int32 := if k = 2 then (if x = 0 then 0 else pc / x) else pc
def patB (k : Int32) : List Int32 := if k = 1 then [41] else if k = 3 then [42, 41] else [40]
def patV (k x : Int32) : Int32 := if k = 1 then 30 else if k = 3 then 30 - x else 60
def dayB (k : Int32) : List Int32 := if k = 2 then [51] else [50]
def dayV (k : Int32) : Int32 := if k = 2 then 1 else 0
abbrev AskR : Type := Int32 × Int32 × List Int32
def ownA (w k dr pc x : Int32) : AskR := if w = 0 then (0, needV k dr x, needB k) else if w = 1 then (0, keelV k x, keelB k) else if w = 2 then (paceF k x, paceV k pc x, paceB k) else if w = 3 then (0, patV k x, patB k) else (0, dayV k, dayB k)
def joinV (w a b : Int32) : Int32 := if w = 0 then (if a < b then b else a) else if w = 2 then (if b < a then b else a) else if w = 3 then (a + b) / 2 else b
def pairBd (w : Int32) : Int32 := if w = 0 then 12 else if w = 2 then 32 else if w = 3 then 43 else 52
def askF (kd dr pc xx p1 p2 : Nat → Int32) (w : Int32) : Nat → Int32 → AskR
  | 0, _ => (1, 0, [])
  | e + 1, s => if s = -1 then (1, 0, []) else if kd s.toNatClampNeg = 4 ∧ ¬ w = 1 then
      (if ¬ (askF kd dr pc xx p1 p2 w e (p1 s.toNatClampNeg)).1 = 0 ∨ (w = 4 ∧ (askF kd dr pc xx p1 p2 w e (p1 s.toNatClampNeg)).2.1 = 1) then ((askF kd dr pc xx p1 p2 w e (p1 s.toNatClampNeg)).1, (askF kd dr pc xx p1 p2 w e (p1 s.toNatClampNeg)).2.1, pairBd w :: (askF kd dr pc xx p1 p2 w e (p1 s.toNatClampNeg)).2.2)
       else ((askF kd dr pc xx p1 p2 w e (p2 s.toNatClampNeg)).1, joinV w (askF kd dr pc xx p1 p2 w e (p1 s.toNatClampNeg)).2.1 (askF kd dr pc xx p1 p2 w e (p2 s.toNatClampNeg)).2.1, pairBd w :: ((askF kd dr pc xx p1 p2 w e (p1 s.toNatClampNeg)).2.2 ++ (askF kd dr pc xx p1 p2 w e (p2 s.toNatClampNeg)).2.2)))
    else ownA w (kd s.toNatClampNeg) (dr s.toNatClampNeg) (pc s.toNatClampNeg) (xx s.toNatClampNeg)
theorem wi_04 {v : Int32} : wi v 0 4 = true ↔ v = 0 ∨ v = 1 ∨ v = 2 ∨ v = 3 ∨ v = 4 := by
  constructor
  · intro h
    obtain ⟨j, hj, rfl⟩ := wi_nI (m := 4) (by decide) h
    rcases (show j = 0 ∨ j = 1 ∨ j = 2 ∨ j = 3 ∨ j = 4 by omega) with rfl | rfl | rfl | rfl | rfl
    · exact Or.inl rfl
    · exact Or.inr (Or.inl rfl)
    · exact Or.inr (Or.inr (Or.inl rfl))
    · exact Or.inr (Or.inr (Or.inr (Or.inl rfl)))
    · exact Or.inr (Or.inr (Or.inr (Or.inr rfl)))
  · rintro (rfl | rfl | rfl | rfl | rfl) <;> decide
section S58
variable (g : Gp) (d : Nat) (I : MI) (D : MD)
theorem c_X_begin (T : Tr) (hT : T.1 ≤ 100) (b : Int32) (sc : MI) : Con g SHc d 82 [.ref 6, .int b] (ovX (trX I T) sc) D (EqP none (ovX (trX I (begT T b)) sc) D) := by
  refine Con.mk (LV := v_Ships_begin) k_Ships_begin (Nat.le_of_ble_eq_true rfl) (fun K hK => ?_)
  refine hK (0, 30, o_Ships_begin_0) (List.mem_of_getElem? (i := 0) rfl) _ _ _ _ ?_
  have e1 : ovX (trX I T) sc 6 8 = nI T.1 := rfl
  refine And.intro (fun c => ?_) (fun c => ?_)
  · rw [e1] at c
    have h : ¬ T.1 < 100 := fun z => absurd (show nI 100 ≤ nI T.1 from c) (nI_ge z (by omega))
    unfold begT
    rw [if_neg h]
    exact And.intro rfl (And.intro rfl rfl)
  · rw [e1] at c
    have h : T.1 < 100 := by
      rcases Nat.lt_or_ge T.1 100 with h | h
      · exact h
      · exact absurd (show nI 100 ≤ nI T.1 from nI_le h (by omega)) c
    refine And.intro (by rw [e1]; exact inn_nI h (by decide)) ?_
    unfold begT
    rw [if_pos h]
    refine And.intro rfl (And.intro ?_ rfl)
    show up2 (up2 (ovX (trX I T) sc) 49 (nI T.1).toNatClampNeg b) 6 8 (nI T.1 + 1) = _
    rw [nI_clamp (by omega), nI_1, ov_n2 _ _ _ _ _ (by rfl), ov_n2 _ _ _ _ _ (by rfl), trX_push]
theorem c_M_begin (T : Tr) (hT : T.1 ≤ 100) (b : Int32) (sc : MI) : Con g SHc d 205 [.ref 12, .int b] (ovX (trM I T) sc) D (EqP none (ovX (trM I (begT T b)) sc) D) := by
  refine Con.mk (LV := v_M_begins) k_M_begins (Nat.le_of_ble_eq_true rfl) (fun K hK => ?_)
  refine hK (0, 30, o_M_begins_0) (List.mem_of_getElem? (i := 0) rfl) _ _ _ _ ?_
  have e1 : ovX (trM I T) sc 12 57 = nI T.1 := rfl
  refine And.intro (fun c => ?_) (fun c => ?_)
  · rw [e1] at c
    have h : ¬ T.1 < 100 := fun z => absurd (show nI 100 ≤ nI T.1 from c) (nI_ge z (by omega))
    unfold begT
    rw [if_neg h]
    exact And.intro rfl (And.intro rfl rfl)
  · rw [e1] at c
    have h : T.1 < 100 := by
      rcases Nat.lt_or_ge T.1 100 with h | h
      · exact h
      · exact absurd (show nI 100 ≤ nI T.1 from nI_le h (by omega)) c
    refine And.intro (by rw [e1]; exact inn_nI h (by decide)) ?_
    unfold begT
    rw [if_pos h]
    refine And.intro rfl (And.intro ?_ rfl)
    show up2 (up2 (ovX (trM I T) sc) 109 (nI T.1).toNatClampNeg b) 12 57 (nI T.1 + 1) = _
    rw [nI_clamp (by omega), nI_1, ov_n2 _ _ _ _ _ (by rfl), ov_n2 _ _ _ _ _ (by rfl), trM_push]
/-- the class's SHIPS: the views -/
abbrev askX (I : MI) (w : Int32) : Nat → Int32 → AskR := askF (I 42) (I 43) (I 44) (I 45) (I 46) (I 47) w
theorem c_X_keelOf (T : Tr) (hT : T.1 ≤ 100) (j : Nat) (hj : j < 40) (sc : MI) : Con g SHc (d + 1) 86 [.ref 6, .int (nI j)] (ovX (trX I T) sc) D (EqP (some (.int (keelV (I 42 j) (I 45 j)))) (ovX (trX I (begsT T (keelB (I 42 j)))) sc) D) := by
  refine Con.mk (LV := v_Ships_keelOf) k_Ships_keelOf (Nat.le_of_ble_eq_true rfl) (fun K hK => ?_)
  refine hK (0, 91, o_Ships_keelOf_0) (List.mem_of_getElem? (i := 0) rfl) _ _ _ _ ?_
  have hjc : (nI j).toNatClampNeg = j := nI_clamp (by omega)
  have h40 : inn (nI j) 40 := inn_nI hj (by decide)
  have b1 : ∀ b, (begT T b).1 ≤ 100 := fun b => begT_le hT b
  have hk : ovX (trX I T) sc 42 (nI j).toNatClampNeg = I 42 j := by rw [hjc]; rfl
  unfold keelV keelB
  refine And.intro (h40) ?_
  refine And.intro (fun c => ?_) (And.intro (fun c => ?_) (And.intro (fun c => ?_) (And.intro (fun c => ?_) (fun c => ?_))))
  · have c : I 42 j = 0 := by rw [← hk]; exact Int32.toInt_inj.mp c
    rw [c]
    refine call_eq (c_X_begin g d I D T hT 21 sc) ?_
    exact And.intro rfl (And.intro rfl rfl)
  · have c : I 42 j = 1 := by rw [← hk]; exact Int32.toInt_inj.mp c
    rw [c]
    refine call_eq (c_X_begin g d I D T hT 20 sc) ?_
    exact And.intro rfl (And.intro rfl rfl)
  · have c : I 42 j = 2 := by rw [← hk]; exact Int32.toInt_inj.mp c
    rw [c]
    refine call_eq (c_X_begin g d I D T hT 22 sc) ?_
    refine call_eq (c_X_begin g d I D (begT T 22) (b1 _) 21 sc) ?_
    refine And.intro (h40) ?_
    rw [hjc]
    exact And.intro rfl (And.intro rfl rfl)
  · have c : I 42 j = 3 := by rw [← hk]; exact Int32.toInt_inj.mp c
    rw [c]
    refine call_eq (c_X_begin g d I D T hT 23 sc) ?_
    refine call_eq (c_X_begin g d I D (begT T 23) (b1 _) 20 sc) ?_
    exact And.intro rfl (And.intro rfl rfl)
  · have c : (I 42 j).toInt < 0 ∨ 3 < (I 42 j).toInt := by rw [← hk]; exact c
    have n0 : ¬ I 42 j = 0 := fun z => by rw [z] at c; exact absurd c (by decide)
    have n2 : ¬ I 42 j = 2 := fun z => by rw [z] at c; exact absurd c (by decide)
    have n3 : ¬ I 42 j = 3 := fun z => by rw [z] at c; exact absurd c (by decide)
    rw [if_neg n0, if_neg n2, if_neg n3, if_neg n0, if_neg n2, if_neg n3]
    refine call_eq (c_X_begin g d I D T hT 20 sc) ?_
    exact And.intro rfl (And.intro rfl rfl)
theorem c_X_needOf (T : Tr) (hT : T.1 ≤ 100) (j : Nat) (hj : j < 40) (sc : MI) : Con g SHc (d + 2) 84 [.ref 6, .int (nI j)] (ovX (trX I T) sc) D (EqP (some (.int (needV (I 42 j) (I 43 j) (I 45 j)))) (ovX (trX I (begsT T (needB (I 42 j)))) sc) D) := by
  refine Con.mk (LV := v_Ships_needOf) k_Ships_needOf (Nat.le_of_ble_eq_true rfl) (fun K hK => ?_)
  refine hK (0, 56, o_Ships_needOf_0) (List.mem_of_getElem? (i := 0) rfl) _ _ _ _ ?_
  have hjc : (nI j).toNatClampNeg = j := nI_clamp (by omega)
  have h40 : inn (nI j) 40 := inn_nI hj (by decide)
  have b1 : ∀ b, (begT T b).1 ≤ 100 := fun b => begT_le hT b
  have b2 : ∀ b c, (begT (begT T b) c).1 ≤ 100 := fun b c => begT_le (b1 b) c
  have hO : Con g SHc (d + 1) 85 [.ref 6, .int (nI j), .int 0] (ovX (trX I T) sc) D (EqP (some (.int (bI (ofK (I 42 j) 0)))) (ovX (trX I T) sc) D) := c_X_isOf g (d + 1) (ovX (trX I T) sc) D j hj 0
  have hof : ofK (I 42 j) 0 = decide (I 42 j = 0 ∨ I 42 j = 2) := by
    unfold ofK
    simp
  refine call_eq (hO) ?_
  rw [hof]
  unfold needV needB
  by_cases c : I 42 j = 0 ∨ I 42 j = 2
  · rw [decide_eq_true c, if_pos c, if_pos c]
    refine And.intro (fun z => absurd z (by decide)) (fun _ => ?_)
    refine call_eq (c_X_begin g (d + 1) I D T hT 11 sc) ?_
    refine call_eq (c_X_begin g (d + 1) I D (begT T 11) (b1 _) 10 sc) ?_
    refine And.intro (h40) ?_
    refine call_eq (c_X_keelOf g d I D (begT (begT T 11) 10) (b2 _ _) j hj sc) ?_
    refine And.intro (fun z => absurd z (by decide)) (fun _ => ?_)
    refine And.intro (h40) ?_
    refine And.intro (by decide) ?_
    rw [hjc]
    exact And.intro rfl (And.intro rfl rfl)
  · rw [decide_eq_false c, if_neg c, if_neg c]
    refine And.intro (fun _ => ?_) (fun z => absurd rfl z)
    refine call_eq (c_X_begin g (d + 1) I D T hT 10 sc) ?_
    refine And.intro (h40) ?_
    refine call_eq (c_X_keelOf g d I D (begT T 10) (b1 _) j hj sc) ?_
    refine And.intro (fun _ => ?_) (fun z => absurd rfl z)
    rw [hjc]
    exact And.intro rfl (And.intro rfl rfl)
theorem c_X_paceOf (T : Tr) (hT : T.1 ≤ 100) (j : Nat) (hj : j < 40) (sc : MI) : Con g SHc (d + 1) 87 [.ref 6, .int (nI j)] (ovX (trX I T) sc) D (EqP (some (.int (paceV (I 42 j) (I 44 j) (I 45 j)))) (ovX (trX I (begsT T (paceB (I 42 j)))) (if paceF (I 42 j) (I 45 j) = 0 then sc else up2 sc 6 10 (paceF (I 42 j) (I 45 j)))) D) := by
  refine Con.mk (LV := v_Ships_paceOf) k_Ships_paceOf (Nat.le_of_ble_eq_true rfl) (fun K hK => ?_)
  refine hK (0, 65, o_Ships_paceOf_0) (List.mem_of_getElem? (i := 0) rfl) _ _ _ _ ?_
  have hjc : (nI j).toNatClampNeg = j := nI_clamp (by omega)
  have h40 : inn (nI j) 40 := inn_nI hj (by decide)
  have b1 : ∀ b, (begT T b).1 ≤ 100 := fun b => begT_le hT b
  unfold paceV paceB
  refine And.intro (h40) ?_
  rw [hjc]
  refine And.intro (fun c => ?_) (fun c => ?_)
  · have c : I 42 j = 2 := c
    rw [if_pos c, if_pos c]
    refine call_eq (c_X_begin g d I D T hT 31 sc) ?_
    refine call_eq (c_X_begin g d I D (begT T 31) (b1 _) 30 sc) ?_
    refine And.intro (h40) ?_
    rw [hjc]
    refine And.intro (fun c2 => ?_) (fun c2 => ?_)
    · have c2 : ¬ I 45 j = 0 := c2
      have hf : paceF (I 42 j) (I 45 j) = 0 := by unfold paceF; rw [if_neg (fun z => c2 z.2)]
      rw [hf, if_neg c2, if_pos rfl]
      refine And.intro (h40) ?_
      refine And.intro (h40) ?_
      rw [hjc]
      refine And.intro (c2) ?_
      exact And.intro rfl (And.intro rfl rfl)
    · have c2 : I 45 j = 0 := c2
      have hf : paceF (I 42 j) (I 45 j) = 4 := by unfold paceF; rw [if_pos ⟨c, c2⟩]
      rw [hf, if_pos c2, if_neg (by decide)]
      refine And.intro rfl (And.intro ?_ rfl)
      exact ov_up2 _ _ _ _ _ rfl
  · have c : ¬ I 42 j = 2 := c
    have hf : paceF (I 42 j) (I 45 j) = 0 := by unfold paceF; rw [if_neg (fun z => c z.1)]
    rw [hf, if_neg c, if_neg c, if_pos rfl]
    refine call_eq (c_X_begin g d I D T hT 30 sc) ?_
    refine And.intro (h40) ?_
    rw [hjc]
    exact And.intro rfl (And.intro rfl rfl)
theorem c_X_patienceOf (T : Tr) (hT : T.1 ≤ 100) (j : Nat) (hj : j < 40) (sc : MI) : Con g SHc (d + 1) 88 [.ref 6, .int (nI j)] (ovX (trX I T) sc) D (EqP (some (.int (patV (I 42 j) (I 45 j)))) (ovX (trX I (begsT T (patB (I 42 j)))) sc) D) := by
  refine Con.mk (LV := v_Ships_patienceOf) k_Ships_patienceOf (Nat.le_of_ble_eq_true rfl) (fun K hK => ?_)
  refine hK (0, 72, o_Ships_patienceOf_0) (List.mem_of_getElem? (i := 0) rfl) _ _ _ _ ?_
  have hjc : (nI j).toNatClampNeg = j := nI_clamp (by omega)
  have h40 : inn (nI j) 40 := inn_nI hj (by decide)
  have b1 : ∀ b, (begT T b).1 ≤ 100 := fun b => begT_le hT b
  have hk : ovX (trX I T) sc 42 (nI j).toNatClampNeg = I 42 j := by rw [hjc]; rfl
  unfold patV patB
  refine And.intro (h40) ?_
  refine And.intro (fun c => ?_) (And.intro (fun c1 => ?_) (fun c1 c2 => ?_))
  · have c : I 42 j = 1 := by rw [← hk]; exact Int32.toInt_inj.mp c
    rw [c]
    refine call_eq (c_X_begin g d I D T hT 41 sc) ?_
    exact And.intro rfl (And.intro rfl rfl)
  · have c : I 42 j = 3 := by rw [← hk]; exact Int32.toInt_inj.mp c1
    rw [c]
    refine call_eq (c_X_begin g d I D T hT 42 sc) ?_
    refine call_eq (c_X_begin g d I D (begT T 42) (b1 _) 41 sc) ?_
    refine And.intro (h40) ?_
    rw [hjc]
    exact And.intro rfl (And.intro rfl rfl)
  · have n1 : ¬ I 42 j = 1 := fun z => c2 (by rw [hk, z]; rfl)
    have n3 : ¬ I 42 j = 3 := fun z => c1 (by rw [hk, z]; rfl)
    rw [if_neg n1, if_neg n3, if_neg n1, if_neg n3]
    refine call_eq (c_X_begin g d I D T hT 40 sc) ?_
    exact And.intro rfl (And.intro rfl rfl)
theorem c_X_pairBody (w : Int32) : Con g SHc d 81 [.int w] I D (EqP (some (.int (pairBd w))) I D) := by
  refine Con.mk (LV := v_Ships_pairBody) k_Ships_pairBody (Nat.le_of_ble_eq_true rfl) (fun K hK => ?_)
  refine hK (0, 44, o_Ships_pairBody_0) (List.mem_of_getElem? (i := 0) rfl) _ _ _ _ ?_
  refine And.intro (fun c => ?_) (And.intro (fun c => ?_) (And.intro (fun c => ?_) (And.intro (fun c => ?_) (fun c => ?_))))
  · have c : w = 0 := Int32.toInt_inj.mp c
    rw [c]
    exact And.intro rfl (And.intro rfl rfl)
  · have c : w = 1 := Int32.toInt_inj.mp c
    rw [c]
    exact And.intro rfl (And.intro rfl rfl)
  · have c : w = 2 := Int32.toInt_inj.mp c
    rw [c]
    exact And.intro rfl (And.intro rfl rfl)
  · have c : w = 3 := Int32.toInt_inj.mp c
    rw [c]
    exact And.intro rfl (And.intro rfl rfl)
  · have n0 : ¬ w = 0 := fun z => by rw [z] at c; exact absurd c (by decide)
    have n2 : ¬ w = 2 := fun z => by rw [z] at c; exact absurd c (by decide)
    have n3 : ¬ w = 3 := fun z => by rw [z] at c; exact absurd c (by decide)
    exact And.intro (by unfold pairBd; rw [if_neg n0, if_neg n2, if_neg n3]) (And.intro rfl rfl)
end S58
