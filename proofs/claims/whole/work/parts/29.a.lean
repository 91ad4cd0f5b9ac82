/-- whether a ROUTE is that of a PASSAGE with a start -/
def usF (rt st : Nat → Int32) (r : Int32) : Nat → Bool
  | 0 => false
  | n + 1 => usF rt st r n || (decide (rt n = r) && !decide (st n = -1))
theorem usF_mono {rt st : Nat → Int32} {r : Int32} {i : Nat} (h : usF rt st r i = true) : ∀ k, usF rt st r (i + k) = true
  | 0 => h
  | k + 1 => by
    have h1 := usF_mono h k
    show (usF rt st r (i + k) || _) = true
    rw [h1]
    rfl
section S29
variable (g : Gp) (d : Nat) (I : MI) (D : MD)
theorem c_X_useRoute (n : Nat) (hn : n ≤ 40) (hI : I 11 13 = nI n) (r : Int32) : Con g SHc d 109 [.ref 11, .int r] I D (EqP (some (.int (bI (usF (I 63) (I 66) r n)))) I D) := by
  refine Con.mk (LV := v_Passages_useRoute) k_Passages_useRoute (Nat.le_of_ble_eq_true rfl) (fun K hK => ?_)
  have loop : ∀ k i, i + k = n → usF (I 63) (I 66) r i = false → K 2 [(0, .ref 11), (1, .int r), (2, .int (nI i))] [] I D := by
    intro k
    induction k with
    | zero =>
      intro i hi hf
      have hi : i = n := by omega
      subst hi
      refine hK (2, 40, o_Passages_useRoute_1) (List.mem_of_getElem? (i := 1) rfl) _ _ _ _ ?_
      refine And.intro (fun c => ?_) (fun c => ?_)
      · exact And.intro (by decide) (And.intro (by rw [hf]; rfl) (And.intro rfl rfl))
      · rw [hI] at c
        exact absurd (nI_le (Nat.le_refl _) (by omega)) c
    | succ k ih =>
      intro i hi hf
      have hb : inn (nI i) 40 := inn_nI (by omega) (by decide)
      have hc : (nI i).toNatClampNeg = i := nI_clamp (by omega)
      have go : usF (I 63) (I 66) r (i + 1) = false → K 2 [(0, .ref 11), (1, .int r), (2, .int (nI i + 1))] [] I D := fun h => by
        have := ih (i + 1) (by omega) h
        rw [nI_succ] at this
        exact this
      refine hK (2, 40, o_Passages_useRoute_1) (List.mem_of_getElem? (i := 1) rfl) _ _ _ _ ?_
      refine And.intro (fun c => ?_) (fun c => ?_)
      · rw [hI] at c
        exact absurd c (nI_ge (by omega) (by omega))
      refine And.intro (hb) ?_
      rw [hc]
      refine And.intro (fun c1 => ?_) (fun c1 => ?_)
      · exact go (by simp [usF, hf, c1])
      refine And.intro (hb) ?_
      rw [hc]
      refine And.intro (fun c2 => ?_) (fun c2 => ?_)
      · exact go (by simp [usF, hf, c2])
      · have h1 : usF (I 63) (I 66) r (i + 1) = true := by simp [usF, c1, c2]
        have h2 := usF_mono h1 k
        rw [show i + 1 + k = n by omega] at h2
        exact And.intro (by decide) (And.intro (by rw [h2]; rfl) (And.intro rfl rfl))
  refine hK (0, 2, o_Passages_useRoute_0) (List.mem_of_getElem? (i := 0) rfl) _ _ _ _ ?_
  exact loop n 0 (by omega) rfl
theorem c_M_isStarted (n : Nat) (hn : n ≤ 40) (hI : I 12 78 = nI n) (r : Int32) : Con g SHc d 225 [.ref 12, .int r] I D (EqP (some (.int (bI (usF (I 124) (I 128) r n)))) I D) := by
  refine Con.mk (LV := v_M_isStarted) k_M_isStarted (Nat.le_of_ble_eq_true rfl) (fun K hK => ?_)
  have loop : ∀ k i, i + k = n → K 4 [(0, .ref 12), (1, .int r), (2, .int (bI (usF (I 124) (I 128) r i))), (3, .int (nI i))] [] I D := by
    intro k
    induction k with
    | zero =>
      intro i hi
      have hi : i = n := by omega
      subst hi
      refine hK (4, 50, o_M_isStarted_1) (List.mem_of_getElem? (i := 1) rfl) _ _ _ _ ?_
      refine And.intro (fun c => ?_) (fun c => ?_)
      · exact And.intro (bI_01 _) (And.intro rfl (And.intro rfl rfl))
      · rw [hI] at c
        exact absurd (nI_le (Nat.le_refl _) (by omega)) c
    | succ k ih =>
      intro i hi
      have hb : inn (nI i) 40 := inn_nI (by omega) (by decide)
      have hc : (nI i).toNatClampNeg = i := nI_clamp (by omega)
      have go := ih (i + 1) (by omega)
      rw [nI_succ] at go
      refine hK (4, 50, o_M_isStarted_1) (List.mem_of_getElem? (i := 1) rfl) _ _ _ _ ?_
      refine And.intro (fun c => ?_) (fun c => ?_)
      · rw [hI] at c
        exact absurd c (nI_ge (by omega) (by omega))
      refine And.intro (fun c0 => ?_) (fun c0 => ?_)
      · rw [show usF (I 124) (I 128) r (i + 1) = true by simp [usF, bI_n0.mp c0]] at go
        exact go
      refine And.intro (hb) ?_
      rw [hc]
      refine And.intro (fun c1 => ?_) (fun c1 => ?_)
      · rw [show usF (I 124) (I 128) r (i + 1) = false by simp [usF, bI_0.mp c0, c1]] at go
        exact go
      refine And.intro (hb) ?_
      rw [hc]
      refine And.intro (fun c2 => ?_) (fun c2 => ?_)
      · rw [show usF (I 124) (I 128) r (i + 1) = false by simp [usF, bI_0.mp c0, c2]] at go
        exact go
      · rw [show usF (I 124) (I 128) r (i + 1) = true by simp [usF, c1, c2]] at go
        exact go
  refine hK (0, 4, o_M_isStarted_0) (List.mem_of_getElem? (i := 0) rfl) _ _ _ _ ?_
  exact loop n 0 (by omega)
theorem c_X_clear (n : Nat) (hn : n ≤ 40) (hI : I 11 13 = nI n) (r : Int32) : Con g SHc (d + 1) 111 [.ref 0, .int r] I D (EqP (some (.int (if wi r 0 5 = true then (if usF (I 63) (I 66) r n = true then -3 else I 50 r.toNatClampNeg) else -2))) (if wi r 0 5 = true then (if usF (I 63) (I 66) r n = true then I else up2 I 50 r.toNatClampNeg 0) else I) D) := by
  refine Con.mk (LV := v_X_clear) k_X_clear (Nat.le_of_ble_eq_true rfl) (fun K hK => ?_)
  refine hK (0, 46, o_X_clear_0) (List.mem_of_getElem? (i := 0) rfl) _ _ _ _ ?_
  refine call_eq (c_X_isRoute g d I D r) ?_
  refine And.intro (fun c1 => ?_) (fun c1 => ?_)
  · have h1 := bI_n0.mp c1
    obtain ⟨j, hj, rfl⟩ := wi_nI (m := 5) (by decide) h1
    refine call_eq (c_X_useRoute g d I D n hn hI _) ?_
    refine And.intro (fun c2 => ?_) (fun c2 => ?_)
    · refine And.intro (inn_nI (by omega) (by decide)) ?_
      refine And.intro (inn_nI (by omega) (by decide)) ?_
      exact And.intro (by simp [h1, bI_0.mp c2]) (And.intro (by first | (simp [h1, bI_0.mp c2]; done) | (simp [h1, bI_0.mp c2]; rfl)) (by first | rfl | simp [h1, bI_0.mp c2]))
    · exact And.intro (by simp [h1, bI_n0.mp c2]) (And.intro (by first | (simp [h1, bI_n0.mp c2]; done) | (simp [h1, bI_n0.mp c2]; rfl)) (by first | rfl | simp [h1, bI_n0.mp c2]))
  · exact And.intro (by simp [bI_0.mp c1]) (And.intro (by first | (simp [bI_0.mp c1]; done) | (simp [bI_0.mp c1]; rfl)) (by first | rfl | simp [bI_0.mp c1]))
theorem c_M_clear (n : Nat) (hn : n ≤ 40) (hI : I 12 78 = nI n) (r : Int32) : Con g SHc (d + 2) 226 [.ref 12, .int r] I D (EqP (some (.int (if wi r 0 5 = true then (if usF (I 124) (I 128) r n = true then -3 else I 117 r.toNatClampNeg) else -2))) (if wi r 0 5 = true then (if usF (I 124) (I 128) r n = true then I else up2 I 117 r.toNatClampNeg 0) else I) D) := by
  refine Con.mk (LV := v_M_clear) k_M_clear (Nat.le_of_ble_eq_true rfl) (fun K hK => ?_)
  refine hK (0, 37, o_M_clear_0) (List.mem_of_getElem? (i := 0) rfl) _ _ _ _ ?_
  refine call_eq (c_M_isRoute g d I D r) ?_
  refine And.intro (fun c1 => ?_) (fun c1 => ?_)
  · have h1 := bI_n0.mp c1
    obtain ⟨j, hj, rfl⟩ := wi_nI (m := 5) (by decide) h1
    refine call_eq (c_M_isStarted g (d + 1) I D n hn hI _) ?_
    refine And.intro (fun c2 => ?_) (fun c2 => ?_)
    · refine And.intro (inn_nI (by omega) (by decide)) ?_
      refine And.intro (inn_nI (by omega) (by decide)) ?_
      exact And.intro (by simp [h1, bI_0.mp c2]) (And.intro (by first | (simp [h1, bI_0.mp c2]; done) | (simp [h1, bI_0.mp c2]; rfl)) (by first | rfl | simp [h1, bI_0.mp c2]))
    · exact And.intro (by simp [h1, bI_n0.mp c2]) (And.intro (by first | (simp [h1, bI_n0.mp c2]; done) | (simp [h1, bI_n0.mp c2]; rfl)) (by first | rfl | simp [h1, bI_n0.mp c2]))
  · exact And.intro (by simp [bI_0.mp c1]) (And.intro (by first | (simp [bI_0.mp c1]; done) | (simp [bI_0.mp c1]; rfl)) (by first | rfl | simp [bI_0.mp c1]))
/-- a PASSAGE is told -/
def psg (a b c w s t tk tj : Nat) (I : MI) (sh rt mi nw : Int32) : MI := up2 (agn w s t (up2 (up2 (up2 I a (I tk tj).toNatClampNeg sh) b (I tk tj).toNatClampNeg rt) c (I tk tj).toNatClampNeg mi) (I tk tj).toNatClampNeg nw) tk tj (I tk tj + 1)
theorem c_X_padd (n : Nat) (hn : n ≤ 40) (hI : I 11 13 = nI n) (sh rt mi nw : Int32) : Con g SHc (d + 1) 125 [.ref 11, .int sh, .int rt, .int mi, .int nw] I D (EqP (some (.int (if n < 40 then nI n else -4))) (if n < 40 then psg 62 63 64 67 65 66 11 13 I sh rt mi nw else I) D) := by
  refine Con.mk (LV := v_Passages_add) k_Passages_add (Nat.le_of_ble_eq_true rfl) (fun K hK => ?_)
  refine hK (0, 69, o_Passages_add_0) (List.mem_of_getElem? (i := 0) rfl) _ _ _ _ ?_
  refine And.intro (fun c1 => ?_) (fun c1 => ?_)
  · rw [hI] at c1
    have c1 : n < 40 := (nI_ltI (by omega) (by decide)).mp c1
    have hI0 : ∀ z : MI, z 11 13 = nI n → inn (z 11 13) 40 := fun z h => by rw [h]; exact inn_nI c1 (by decide)
    rw [if_pos c1, if_pos c1]
    refine And.intro (hI0 I hI) ?_
    refine And.intro (hI0 _ hI) ?_
    refine And.intro (hI0 _ hI) ?_
    have hz : ∀ (z : MI) (k : Po), z 11 13 = nI n → k none (agn 67 65 66 z (z 11 13).toNatClampNeg nw) D → CaD g SHc (d + 1) 126 [.ref 11, .int (z 11 13), .int nw] z D k := by
      intro z k h1 h2
      rw [h1] at h2 ⊢
      rw [nI_clamp (by omega)] at h2
      exact call_eq (c_X_letWait g d z D n (by omega) nw) h2
    refine hz _ _ hI ?_
    refine And.intro ?_ (And.intro rfl rfl)
    rw [up2_at]
    exact congrArg (fun z => some (Value.int z)) ((congrArg (fun z : Int32 => z + 1 - 1) hI).trans (by rw [nI_1, nI_pred]))
  · rw [hI] at c1
    have c1 : ¬ n < 40 := fun h => c1 ((nI_ltI (by omega) (by decide)).mpr h)
    rw [if_neg c1, if_neg c1]
    exact And.intro rfl (And.intro rfl rfl)
theorem c_X_passage (n m : Nat) (hn : n ≤ 40) (hm : m ≤ 40) (hI : I 11 13 = nI n) (hS : I 6 9 = nI m) (sh rt mi : Int32) : Con g SHc (d + 2) 124 [.ref 0, .int sh, .int rt, .int mi] I D (EqP (some (.int (if (ix sh (nI m) && wi rt 0 5 && wi mi 0 43199) = true then (if n < 40 then nI n else -4) else -2))) (if (ix sh (nI m) && wi rt 0 5 && wi mi 0 43199) = true then (if n < 40 then psg 62 63 64 67 65 66 11 13 I sh rt mi (I 0 11) else I) else I) D) := by
  refine Con.mk (LV := v_X_passage) k_X_passage (Nat.le_of_ble_eq_true rfl) (fun K hK => ?_)
  refine hK (0, 40, o_X_passage_0) (List.mem_of_getElem? (i := 0) rfl) _ _ _ _ ?_
  refine call_eq (c_X_isShip g (d + 1) I D sh) ?_
  rw [hS]
  refine And.intro (fun c1 => ?_) (fun c1 => ?_)
  · exact And.intro (by simp [bI_0.mp c1, ix]) (And.intro (by first | (simp [bI_0.mp c1, ix]; done) | (simp [bI_0.mp c1, ix]; rfl)) (by first | rfl | simp [bI_0.mp c1, ix]))
  refine call_eq (c_X_isRoute g (d + 1) I D rt) ?_
  refine And.intro (fun c2 => ?_) (fun c2 => ?_)
  · exact And.intro (by simp [bI_0.mp c2]) (And.intro (by first | (simp [bI_0.mp c2]; done) | (simp [bI_0.mp c2]; rfl)) (by first | rfl | simp [bI_0.mp c2]))
  refine call_eq (c_X_isMinute g (d + 1) I D mi) ?_
  have h1 : ix sh (nI m) = true := bI_n0.mp c1
  refine And.intro (fun c3 => ?_) (fun c3 => ?_)
  · refine call_eq (c_X_padd g d I D n hn hI _ _ _ _) ?_
    exact And.intro (by simp [h1, bI_n0.mp c2, bI_n0.mp c3]) (And.intro (by first | (simp [h1, bI_n0.mp c2, bI_n0.mp c3]; done) | (simp [h1, bI_n0.mp c2, bI_n0.mp c3]; rfl)) (by first | rfl | simp [h1, bI_n0.mp c2, bI_n0.mp c3]))
  · exact And.intro (by simp [bI_0.mp c3]) (And.intro (by first | (simp [bI_0.mp c3]; done) | (simp [bI_0.mp c3]; rfl)) (by first | rfl | simp [bI_0.mp c3]))
theorem c_M_passage (n m : Nat) (hn : n ≤ 40) (hm : m ≤ 40) (hI : I 12 78 = nI n) (hS : I 12 49 = nI m) (sh rt mi : Int32) : Con g SHc (d + 2) 237 [.ref 12, .int sh, .int rt, .int mi] I D (EqP (some (.int (if (ix sh (nI m) && wi rt 0 5 && wi mi 0 43199) = true then (if n < 40 then nI n else -4) else -2))) (if (ix sh (nI m) && wi rt 0 5 && wi mi 0 43199) = true then (if n < 40 then psg 123 124 125 126 127 128 12 78 I sh rt mi (I 12 0) else I) else I) D) := by
  refine Con.mk (LV := v_M_passage) k_M_passage (Nat.le_of_ble_eq_true rfl) (fun K hK => ?_)
  refine hK (0, 117, o_M_passage_0) (List.mem_of_getElem? (i := 0) rfl) _ _ _ _ ?_
  refine call_eq (c_M_isShip g d I D sh) ?_
  rw [hS, ix_wi (by omega)]
  refine And.intro (fun c1 => ?_) (fun c1 => ?_)
  · exact And.intro (by simp [bI_0.mp c1]) (And.intro (by first | (simp [bI_0.mp c1]; done) | (simp [bI_0.mp c1]; rfl)) (by first | rfl | simp [bI_0.mp c1]))
  refine call_eq (c_M_isRoute g d I D rt) ?_
  refine And.intro (fun c2 => ?_) (fun c2 => ?_)
  · exact And.intro (by simp [bI_0.mp c2]) (And.intro (by first | (simp [bI_0.mp c2]; done) | (simp [bI_0.mp c2]; rfl)) (by first | rfl | simp [bI_0.mp c2]))
  refine call_eq (c_M_isMinute g d I D mi) ?_
  refine And.intro (fun c3 => ?_) (fun c3 => ?_)
  · rw [bI_n0.mp c1, bI_n0.mp c2, bI_n0.mp c3]
    refine And.intro (fun c4 => ?_) (fun c4 => ?_)
    · rw [hI] at c4
      have c4 : n < 40 := by
        rcases Nat.lt_or_ge n 40 with h | h
        · exact h
        · exact absurd (by rw [show n = 40 by omega]; rfl) c4
      have hI0 : ∀ z : MI, z 12 78 = nI n → inn (z 12 78) 40 := fun z h => by rw [h]; exact inn_nI c4 (by decide)
      refine And.intro (hI0 I hI) ?_
      refine And.intro (hI0 _ hI) ?_
      refine And.intro (hI0 _ hI) ?_
      refine And.intro (hI0 _ hI) ?_
      refine And.intro (hI0 _ hI) ?_
      refine And.intro (hI0 _ hI) ?_
      refine And.intro ?_ (And.intro ?_ rfl)
      · rw [up2_at]
        refine (congrArg (fun z => some (Value.int z)) ((congrArg (fun z : Int32 => z + 1 - 1) hI).trans (by rw [nI_1, nI_pred]))).trans ?_
        simp [c4]
      · simp [c4]
        rfl
    · rw [hI] at c4
      have c5 : n = 40 := (nI_eq (a := n) (b := 40) (by omega) (by decide)).mp c4
      have c4 : ¬ n < 40 := by omega
      exact And.intro (by simp [c4]) (And.intro (by first | (simp [c4]; done) | (simp [c4]; rfl)) (by first | rfl | simp [c4]))
  · exact And.intro (by simp [bI_0.mp c3]) (And.intro (by first | (simp [bI_0.mp c3]; done) | (simp [bI_0.mp c3]; rfl)) (by first | rfl | simp [bI_0.mp c3]))
end S29
