theorem up2_up2 {α : Type} (f : Nat → Nat → α) (k j : Nat) (v w : α) : up2 (up2 f k j v) k j w = up2 f k j w := by
  funext a b
  rw [up2_at2, up2_at2, up2_at2]
  split <;> rfl
section S35
variable (g : Gp) (d : Nat) (I : MI) (D : MD)
/-- a BED is laid at the place b -/
def byX (I : MI) (b : Nat) (s dy bd nw : Int32) : MI := up2 (up2 (up2 (up2 I 32 b s) 33 b dy) 34 b nw) 35 b bd
def byM (I : MI) (b : Nat) (s dy bd nw : Int32) : MI := up2 (up2 (up2 (up2 (up2 I 93 b s) 94 b dy) 95 b nw) 96 b bd) 12 37 (nI (b + 1))
theorem c_X_addBed (b : Nat) (hb : b < 76) (hI : I 4 8 + I 4 9 = nI b) (s dy bd nw : Int32) : Con g SHc d 44 [.ref 4, .int s, .int dy, .int bd, .int nw] I D (EqP none (byX I b s dy bd nw) D) := by
  have hi : inn (nI b) 76 := inn_nI hb (by decide)
  refine Con.mk (LV := v_Shoals_addBed) k_Shoals_addBed (Nat.le_of_ble_eq_true rfl) (fun K hK => ?_)
  refine hK (0, 45, o_Shoals_addBed_0) (List.mem_of_getElem? (i := 0) rfl) _ _ _ _ ?_
  refine And.intro (by rw [hI]; exact hi) ?_
  rw [hI]
  refine And.intro (hi) ?_
  refine And.intro (hi) ?_
  refine And.intro (hi) ?_
  rw [nI_clamp (show b < 2 ^ 31 by omega)]
  exact And.intro rfl (And.intro rfl rfl)
theorem c_M_lay (b : Nat) (hb : b < 76) (hI : I 12 37 = nI b) (s dy bd : Int32) : Con g SHc d 181 [.ref 12, .int s, .int dy, .int bd] I D (EqP none (byM I b s dy bd (I 12 0)) D) := by
  have hI0 : ∀ z : MI, z 12 37 = nI b → inn (z 12 37) 76 := fun z h => by rw [h]; exact inn_nI hb (by decide)
  have hc : (I 12 37).toNatClampNeg = b := by rw [hI]; exact nI_clamp (by omega)
  have e1 : I 12 37 + 1 = nI (b + 1) := by rw [hI]; exact nI_1 b
  have key : byM I b s dy bd (I 12 0) = up2 (up2 (up2 (up2 (up2 I 93 (I 12 37).toNatClampNeg s) 94 (I 12 37).toNatClampNeg dy) 95 (I 12 37).toNatClampNeg (I 12 0)) 96 (I 12 37).toNatClampNeg bd) 12 37 (I 12 37 + 1) := by rw [hc, e1]; rfl
  rw [key]
  refine Con.mk (LV := v_M_lay) k_M_lay (Nat.le_of_ble_eq_true rfl) (fun K hK => ?_)
  refine hK (0, 54, o_M_lay_0) (List.mem_of_getElem? (i := 0) rfl) _ _ _ _ ?_
  refine And.intro (hI0 I hI) ?_
  refine And.intro (hI0 _ hI) ?_
  refine And.intro (hI0 _ hI) ?_
  refine And.intro (hI0 _ hI) ?_
  exact And.intro rfl (And.intro rfl rfl)
def shX (I : MI) (n b : Nat) (s bd lk nw : Int32) : MI := up2 (byX (up2 (up2 I 30 n s) 31 n lk) b (nI n) 0 bd nw) 4 8 (nI (n + 1))
def shM (I : MI) (n b : Nat) (s bd lk : Int32) : MI := up2 (byM (up2 (up2 I 91 n s) 92 n lk) b (nI n) 0 bd (I 12 0)) 12 33 (nI (n + 1))
theorem c_X_sadd (n b : Nat) (hn : n ≤ 16) (hb : n < 16 → b < 76) (hI : I 4 8 = nI n) (hB : I 4 8 + I 4 9 = nI b) (s bd lk nw : Int32) : Con g SHc (d + 1) 43 [.ref 4, .int s, .int bd, .int lk, .int nw] I D (EqP (some (.int (if n < 16 then nI n else -4))) (if n < 16 then shX I n b s bd lk nw else I) D) := by
  have hc : (I 4 8).toNatClampNeg = n := by rw [hI]; exact nI_clamp (by omega)
  have e1 : I 4 8 + 1 = nI (n + 1) := by rw [hI]; exact nI_1 n
  refine Con.mk (LV := v_Shoals_add) k_Shoals_add (Nat.le_of_ble_eq_true rfl) (fun K hK => ?_)
  refine hK (0, 61, o_Shoals_add_0) (List.mem_of_getElem? (i := 0) rfl) _ _ _ _ ?_
  refine And.intro (fun c1 => ?_) (fun c1 => ?_)
  · rw [hI] at c1
    have c1 : n < 16 := (nI_ltI (by omega) (by decide)).mp c1
    have hI0 : ∀ z : MI, z 4 8 = nI n → inn (z 4 8) 16 := fun z h => by rw [h]; exact inn_nI c1 (by decide)
    rw [if_pos c1, if_pos c1]
    refine And.intro (hI0 I hI) ?_
    rw [hc]
    refine And.intro (hI0 _ hI) ?_
    have hc2 : (up2 I 30 n s 4 8).toNatClampNeg = n := hc
    rw [hc2]
    have hz : ∀ k : Po, k none (byX (up2 (up2 I 30 n s) 31 n lk) b (nI n) 0 bd nw) D → CaD g SHc (d + 1) 44 [.ref 4, .int (up2 (up2 I 30 n s) 31 n lk 4 8), .int 0, .int bd, .int nw] (up2 (up2 I 30 n s) 31 n lk) D k := by
      intro k hk
      have e2 : up2 (up2 I 30 n s) 31 n lk 4 8 = nI n := hI
      rw [e2]
      exact call_eq (c_X_addBed g d (up2 (up2 I 30 n s) 31 n lk) D b (hb c1) hB _ _ _ _) hk
    refine hz _ ?_
    refine And.intro ?_ (And.intro ?_ rfl)
    · rw [up2_at]
      exact congrArg (fun z => some (Value.int z)) ((congrArg (fun z : Int32 => z - 1) e1).trans (by rw [nI_pred]))
    · exact congrArg (up2 _ _ _) e1
  · rw [hI] at c1
    have c1 : ¬ n < 16 := fun h => c1 ((nI_ltI (by omega) (by decide)).mpr h)
    rw [if_neg c1, if_neg c1]
    exact And.intro rfl (And.intro rfl rfl)
def drX (I : MI) (q b : Nat) (s dy bd nw : Int32) : MI := up2 (byX I b s dy bd nw) 4 9 (nI (q + 1))
def drM (I : MI) (q b : Nat) (s dy bd : Int32) : MI := up2 (byM I b s dy bd (I 12 0)) 12 36 (nI (q + 1))
theorem c_X_addDredging (q b : Nat) (hq : q ≤ 60) (hb : q < 60 → b < 76) (hI : I 4 9 = nI q) (hB : I 4 8 + I 4 9 = nI b) (s dy bd nw : Int32) : Con g SHc (d + 1) 47 [.ref 4, .int s, .int dy, .int bd, .int nw] I D (EqP (some (.int (if q < 60 then nI (q + 1) else -4))) (if q < 60 then drX I q b s dy bd nw else I) D) := by
  have e1 : I 4 9 + 1 = nI (q + 1) := by rw [hI]; exact nI_1 q
  refine Con.mk (LV := v_Shoals_addDredging) k_Shoals_addDredging (Nat.le_of_ble_eq_true rfl) (fun K hK => ?_)
  refine hK (0, 36, o_Shoals_addDredging_0) (List.mem_of_getElem? (i := 0) rfl) _ _ _ _ ?_
  refine And.intro (fun c1 => ?_) (fun c1 => ?_)
  · rw [hI] at c1
    have c1 : q < 60 := (nI_ltI (by omega) (by decide)).mp c1
    rw [if_pos c1, if_pos c1]
    refine call_eq (c_X_addBed g d I D b (hb c1) hB s dy bd nw) ?_
    refine And.intro ?_ (And.intro ?_ rfl)
    · rw [up2_at]
      exact congrArg (fun z => some (Value.int z)) e1
    · exact congrArg (up2 _ _ _) e1
  · rw [hI] at c1
    have c1 : ¬ q < 60 := fun h => c1 ((nI_ltI (by omega) (by decide)).mpr h)
    rw [if_neg c1, if_neg c1]
    exact And.intro rfl (And.intro rfl rfl)
theorem c_X_shoal (n b : Nat) (hn : n ≤ 16) (hb : n < 16 → b < 76) (hI : I 4 8 = nI n) (hB : I 4 8 + I 4 9 = nI b) (s bd lk : Int32) : Con g SHc (d + 2) 41 [.ref 0, .int s, .int bd, .int lk] I D (EqP (some (.int (if (wi s 0 11 && wi bd (-1000) 5000 && wi lk 0 7200) = true then (if n < 16 then nI n else -4) else -2))) (if (wi s 0 11 && wi bd (-1000) 5000 && wi lk 0 7200) = true then (if n < 16 then shX I n b s bd lk (I 0 11) else I) else I) D) := by
  refine Con.mk (LV := v_X_shoal) k_X_shoal (Nat.le_of_ble_eq_true rfl) (fun K hK => ?_)
  refine hK (0, 43, o_X_shoal_0) (List.mem_of_getElem? (i := 0) rfl) _ _ _ _ ?_
  clear hK
  repeat' (first | (refine And.intro (fun _ => ?_) (fun _ => ?_)) | (refine call_eq (c_X_sadd g _ _ _ n b hn hb hI hB _ _ _ _) ?_) | (refine call_eq (c_X_isWithin g _ _ _ _ _ _) ?_) | (refine call_eq (c_X_isMoment g _ _ _ _) ?_) | (refine call_eq (c_X_isDay g _ _ _ _) ?_) | (refine call_eq (c_X_isMinute g _ _ _ _) ?_) | (refine call_eq (c_X_isStation g _ _ _ _) ?_) | (refine call_eq (c_X_isFleet g _ _ _ _) ?_) | (refine call_eq (c_X_isRoute g _ _ _ _) ?_) | (refine call_eq (c_X_isGauge g _ _ _ _) ?_) | (refine call_eq (c_X_isShoal g _ _ _ _) ?_) | (refine call_eq (c_X_isShip g _ _ _ _) ?_) | (refine call_eq (c_X_isPassage g _ _ _ _) ?_) | (refine call_eq (c_X_isShipOrNothing g _ _ _ _) ?_) | (refine call_eq (c_X_isPast g _ _ _ _) ?_) | (refine call_eq (c_X_isBed g _ _ _ _) ?_) | (refine call_eq (c_X_areSpent g _ _ _) ?_) | (refine call_eq (c_X_tell g _ _ _ _) ?_) | (refine call_eq (c_X_isNoFloat g _ _ _ _) ?_) | (refine call_eq (c_X_isMark g _ _ _ _) ?_) | (refine And.intro (fun _ => ?_) ?_) | intro _)
  all_goals (refine And.intro ?_ (And.intro ?_ ?_) <;> (first | rfl | (simp_all [bI_0, bI_n0]; done) | (simp_all [bI_0, bI_n0, i32_lt, i32_le] <;> omega)))
theorem c_X_dredge (n q b : Nat) (hn : n ≤ 16) (hq : q ≤ 60) (hb : q < 60 → b < 76) (hT : I 4 8 = nI n) (hI : I 4 9 = nI q) (hB : I 4 8 + I 4 9 = nI b) (s dy bd : Int32) : Con g SHc (d + 2) 45 [.ref 0, .int s, .int dy, .int bd] I D (EqP (some (.int (if (ix s (nI n) && wi dy 0 29 && wi bd (-1000) 5000) = true then (if q < 60 then nI (q + 1) else -4) else -2))) (if (ix s (nI n) && wi dy 0 29 && wi bd (-1000) 5000) = true then (if q < 60 then drX I q b s dy bd (I 0 11) else I) else I) D) := by
  refine Con.mk (LV := v_X_dredge) k_X_dredge (Nat.le_of_ble_eq_true rfl) (fun K hK => ?_)
  refine hK (0, 40, o_X_dredge_0) (List.mem_of_getElem? (i := 0) rfl) _ _ _ _ ?_
  refine call_eq (c_X_isShoal g (d + 1) I D s) ?_
  rw [hT]
  refine And.intro (fun c1 => ?_) (fun c1 => ?_)
  · exact And.intro (by simp [bI_0.mp c1, ix]) (And.intro (by first | (simp [bI_0.mp c1, ix]; done) | (simp [bI_0.mp c1, ix]; rfl)) (by first | rfl | simp [bI_0.mp c1, ix]))
  refine call_eq (c_X_isDay g (d + 1) I D dy) ?_
  refine And.intro (fun c2 => ?_) (fun c2 => ?_)
  · exact And.intro (by simp [bI_0.mp c2]) (And.intro (by first | (simp [bI_0.mp c2]; done) | (simp [bI_0.mp c2]; rfl)) (by first | rfl | simp [bI_0.mp c2]))
  refine call_eq (c_X_isBed g (d + 1) I D bd) ?_
  have h1 : ix s (nI n) = true := bI_n0.mp c1
  refine And.intro (fun c3 => ?_) (fun c3 => ?_)
  · refine call_eq (c_X_addDredging g d I D q b hq hb hI hB _ _ _ _) ?_
    exact And.intro (by simp [h1, bI_n0.mp c2, bI_n0.mp c3]) (And.intro (by first | (simp [h1, bI_n0.mp c2, bI_n0.mp c3]; done) | (simp [h1, bI_n0.mp c2, bI_n0.mp c3]; rfl)) (by first | rfl | simp [h1, bI_n0.mp c2, bI_n0.mp c3]))
  · exact And.intro (by simp [bI_0.mp c3]) (And.intro (by first | (simp [bI_0.mp c3]; done) | (simp [bI_0.mp c3]; rfl)) (by first | rfl | simp [bI_0.mp c3]))
theorem c_M_shoal (n b : Nat) (hn : n ≤ 16) (hb : n < 16 → b < 76) (hI : I 12 33 = nI n) (hB : I 12 37 = nI b) (s bd lk : Int32) : Con g SHc (d + 2) 180 [.ref 12, .int s, .int bd, .int lk] I D (EqP (some (.int (if (wi s 0 11 && wi bd (-1000) 5000 && wi lk 0 7200) = true then (if n < 16 then nI n else -4) else -2))) (if (wi s 0 11 && wi bd (-1000) 5000 && wi lk 0 7200) = true then (if n < 16 then shM I n b s bd lk else I) else I) D) := by
  have hc : (I 12 33).toNatClampNeg = n := by rw [hI]; exact nI_clamp (by omega)
  have e1 : I 12 33 + 1 = nI (n + 1) := by rw [hI]; exact nI_1 n
  refine Con.mk (LV := v_M_shoal) k_M_shoal (Nat.le_of_ble_eq_true rfl) (fun K hK => ?_)
  refine hK (0, 93, o_M_shoal_0) (List.mem_of_getElem? (i := 0) rfl) _ _ _ _ ?_
  refine call_eq (c_M_isStation g d I D s) ?_
  refine And.intro (fun c1 => ?_) (fun c1 => ?_)
  · exact And.intro (by simp [bI_0.mp c1]) (And.intro (by first | (simp [bI_0.mp c1]; done) | (simp [bI_0.mp c1]; rfl)) (by first | rfl | simp [bI_0.mp c1]))
  refine call_eq (c_M_in g (d + 1) I D bd (-1000) 5000) ?_
  refine And.intro (fun c2 => ?_) (fun c2 => ?_)
  · exact And.intro (by simp [bI_0.mp c2]) (And.intro (by first | (simp [bI_0.mp c2]; done) | (simp [bI_0.mp c2]; rfl)) (by first | rfl | simp [bI_0.mp c2]))
  refine call_eq (c_M_in g (d + 1) I D lk 0 7200) ?_
  refine And.intro (fun c3 => ?_) (fun c3 => ?_)
  · rw [bI_n0.mp c1, bI_n0.mp c2, bI_n0.mp c3]
    refine And.intro (fun c4 => ?_) (fun c4 => ?_)
    · rw [hI] at c4
      have c4 : n < 16 := by
        rcases Nat.lt_or_ge n 16 with h | h
        · exact h
        · exact absurd (by rw [show n = 16 by omega]; rfl) c4
      have hI0 : ∀ z : MI, z 12 33 = nI n → inn (z 12 33) 16 := fun z h => by rw [h]; exact inn_nI c4 (by decide)
      refine And.intro (hI0 I hI) ?_
      rw [hc]
      refine And.intro (hI0 _ hI) ?_
      have hc2 : (up2 I 91 n s 12 33).toNatClampNeg = n := hc
      rw [hc2]
      have hz : ∀ k : Po, k none (byM (up2 (up2 I 91 n s) 92 n lk) b (nI n) 0 bd (I 12 0)) D → CaD g SHc (d + 2) 181 [.ref 12, .int (up2 (up2 I 91 n s) 92 n lk 12 33), .int 0, .int bd] (up2 (up2 I 91 n s) 92 n lk) D k := by
        intro k hk
        have e2 : up2 (up2 I 91 n s) 92 n lk 12 33 = nI n := hI
        rw [e2]
        exact call_eq (c_M_lay g (d + 1) (up2 (up2 I 91 n s) 92 n lk) D b (hb c4) hB _ _ _) hk
      refine hz _ ?_
      refine And.intro ?_ (And.intro ?_ rfl)
      · rw [up2_at]
        refine (congrArg (fun z => some (Value.int z)) ((congrArg (fun z : Int32 => z - 1) e1).trans (by rw [nI_pred]))).trans ?_
        simp [c4]
      · refine (congrArg (up2 _ _ _) e1).trans ?_
        simp [c4]
        rfl
    · rw [hI] at c4
      have c5 : n = 16 := (nI_eq (a := n) (b := 16) (by omega) (by decide)).mp c4
      have c4 : ¬ n < 16 := by omega
      exact And.intro (by simp [c4]) (And.intro (by first | (simp [c4]; done) | (simp [c4]; rfl)) (by first | rfl | simp [c4]))
  · exact And.intro (by simp [bI_0.mp c3]) (And.intro (by first | (simp [bI_0.mp c3]; done) | (simp [bI_0.mp c3]; rfl)) (by first | rfl | simp [bI_0.mp c3]))
theorem c_M_dredge (n q b : Nat) (hn : n ≤ 16) (hq : q ≤ 60) (hb : q < 60 → b < 76) (hT : I 12 33 = nI n) (hI : I 12 36 = nI q) (hB : I 12 37 = nI b) (s dy bd : Int32) : Con g SHc (d + 2) 182 [.ref 12, .int s, .int dy, .int bd] I D (EqP (some (.int (if (ix s (nI n) && wi dy 0 29 && wi bd (-1000) 5000) = true then (if q < 60 then nI (q + 1) else -4) else -2))) (if (ix s (nI n) && wi dy 0 29 && wi bd (-1000) 5000) = true then (if q < 60 then drM I q b s dy bd else I) else I) D) := by
  have e1 : I 12 36 + 1 = nI (q + 1) := by rw [hI]; exact nI_1 q
  refine Con.mk (LV := v_M_dredge) k_M_dredge (Nat.le_of_ble_eq_true rfl) (fun K hK => ?_)
  refine hK (0, 68, o_M_dredge_0) (List.mem_of_getElem? (i := 0) rfl) _ _ _ _ ?_
  refine call_eq (c_M_isShoal g d I D s) ?_
  rw [hT, ix_wi (by omega)]
  refine And.intro (fun c1 => ?_) (fun c1 => ?_)
  · exact And.intro (by simp [bI_0.mp c1]) (And.intro (by first | (simp [bI_0.mp c1]; done) | (simp [bI_0.mp c1]; rfl)) (by first | rfl | simp [bI_0.mp c1]))
  refine call_eq (c_M_in g (d + 1) I D dy 0 29) ?_
  refine And.intro (fun c2 => ?_) (fun c2 => ?_)
  · exact And.intro (by simp [bI_0.mp c2]) (And.intro (by first | (simp [bI_0.mp c2]; done) | (simp [bI_0.mp c2]; rfl)) (by first | rfl | simp [bI_0.mp c2]))
  refine call_eq (c_M_in g (d + 1) I D bd (-1000) 5000) ?_
  refine And.intro (fun c3 => ?_) (fun c3 => ?_)
  · rw [bI_n0.mp c1, bI_n0.mp c2, bI_n0.mp c3]
    refine And.intro (fun c4 => ?_) (fun c4 => ?_)
    · rw [hI] at c4
      have c4 : q < 60 := by
        rcases Nat.lt_or_ge q 60 with h | h
        · exact h
        · exact absurd (by rw [show q = 60 by omega]; rfl) c4
      refine call_eq (c_M_lay g (d + 1) I D b (hb c4) hB _ _ _) ?_
      refine And.intro ?_ (And.intro ?_ rfl)
      · rw [up2_at]
        refine (congrArg (fun z => some (Value.int z)) e1).trans ?_
        simp [c4]
      · refine (congrArg (up2 _ _ _) e1).trans ?_
        simp [c4]
        rfl
    · rw [hI] at c4
      have c5 : q = 60 := (nI_eq (a := q) (b := 60) (by omega) (by decide)).mp c4
      have c4 : ¬ q < 60 := by omega
      exact And.intro (by simp [c4]) (And.intro (by first | (simp [c4]; done) | (simp [c4]; rfl)) (by first | rfl | simp [c4]))
  · exact And.intro (by simp [bI_0.mp c3]) (And.intro (by first | (simp [bI_0.mp c3]; done) | (simp [bI_0.mp c3]; rfl)) (by first | rfl | simp [bI_0.mp c3]))
theorem c_X_bedInForce (s t k : Int32) (n : Nat) (hn : n ≤ 76) (hI : I 4 8 + I 4 9 = nI n) : Con g SHc d 50 [.ref 4, .int s, .int t, .int k] I D (EqP (some (.int (ifF (I 32) (I 33) (I 34) s t k n))) I D) := by
  refine Con.mk (LV := v_Shoals_bedInForce) k_Shoals_bedInForce (Nat.le_of_ble_eq_true rfl) (fun K hK => ?_)
  have loop : ∀ r i, i + r = n → K 6 [(0, .ref 4), (1, .int s), (2, .int t), (3, .int k), (4, .int (ifF (I 32) (I 33) (I 34) s t k i)), (5, .int (nI i))] [] I D := by
    intro r
    induction r with
    | zero =>
      intro i hi
      have hi : i = n := by omega
      subst hi
      refine hK (6, 104, o_Shoals_bedInForce_1) (List.mem_of_getElem? (i := 1) rfl) _ _ _ _ ?_
      refine And.intro (fun c => ?_) (fun c => ?_)
      · exact And.intro rfl (And.intro rfl rfl)
      · exact absurd (by rw [hI]; exact nI_le (Nat.le_refl _) (by omega)) c
    | succ r ih =>
      intro i hi
      have h60 : inn (nI i) 76 := inn_nI (by omega) (by decide)
      have hcl : (nI i).toNatClampNeg = i := nI_clamp (by omega)
      have go := ih (i + 1) (by omega)
      rw [nI_succ] at go
      have bd : ¬ ifF (I 32) (I 33) (I 34) s t k i = -1 → inn (ifF (I 32) (I 33) (I 34) s t k i) 76 := by
        intro h
        rcases ifF_in (I 32) (I 33) (I 34) s t k i with h1 | ⟨j, h1, h2⟩
        · exact absurd h1 h
        · rw [h2]
          exact inn_nI (by omega) (by decide)
      refine hK (6, 104, o_Shoals_bedInForce_1) (List.mem_of_getElem? (i := 1) rfl) _ _ _ _ ?_
      refine And.intro (fun c => ?_) (fun c => ?_)
      · rw [hI] at c
        exact absurd c (nI_ge (by omega) (by omega))
      refine And.intro (h60) ?_
      refine And.intro (fun c1 => ?_) (fun c1 => ?_)
      · rw [hcl] at c1
        rw [ifF_n (fun h => c1 h.1.1)] at go
        exact And.intro (fun _ => go) (fun h => absurd rfl h)
      refine And.intro (h60) ?_
      refine And.intro (fun c2 => ?_) (fun c2 => ?_)
      · rw [hcl] at c2
        rw [ifF_n (fun h => absurd h.1.2.1 (i32_nle.mpr c2))] at go
        exact And.intro (fun _ => go) (fun h => absurd rfl h)
      refine And.intro (h60) ?_
      refine And.intro (by decide) ?_
      refine And.intro (fun c3 => ?_) (fun c3 => ?_)
      · rw [hcl] at c3
        rw [ifF_n (fun h => absurd h.1.2.2 (i32_nle.mpr c3))] at go
        exact And.intro (fun _ => go) (fun h => absurd rfl h)
      rw [hcl] at c1 c2 c3
      refine And.intro (fun h => absurd h (by decide)) (fun _ => ?_)
      refine And.intro (fun c4 => ?_) (fun c4 => ?_)
      · rw [ifF_y ⟨⟨c1, i32_nlt.mp c2, i32_nlt.mp c3⟩, Or.inl c4⟩] at go
        exact go
      refine And.intro (h60) ?_
      refine And.intro (bd c4) ?_
      refine And.intro (fun c5 => ?_) (fun c5 => ?_)
      · rw [hcl] at c5
        rw [ifF_n (fun h => h.2.elim (fun z => c4 z) (fun z => absurd z (i32_nle.mpr c5)))] at go
        exact go
      · rw [hcl] at c5
        rw [ifF_y ⟨⟨c1, i32_nlt.mp c2, i32_nlt.mp c3⟩, Or.inr (i32_nlt.mp c5)⟩] at go
        exact go
  refine hK (0, 6, o_Shoals_bedInForce_0) (List.mem_of_getElem? (i := 0) rfl) _ _ _ _ ?_
  exact loop n 0 (by omega)
theorem c_X_hasDepth (n b q : Nat) (hn : n ≤ 60) (hI : I 2 9 = nI n) (hb : b ≤ 76) (hB : I 4 8 + I 4 9 = nI b) (hq : q < 16) (t k : Int32) : Con g SHc (d + 1) 49 [.ref 4, .int (nI q), .int t, .int k] I D (EqP (some (.int (bI (!decide (ifF (I 32) (I 33) (I 34) (nI q) t k b = -1) && !decide (ifF (I 16) (I 17) (I 18) (I 30 q) t k n = -1))))) I D) := by
  refine Con.mk (LV := v_Shoals_hasDepth) k_Shoals_hasDepth (Nat.le_of_ble_eq_true rfl) (fun K hK => ?_)
  refine hK (0, 36, o_Shoals_hasDepth_0) (List.mem_of_getElem? (i := 0) rfl) _ _ _ _ ?_
  refine call_eq (c_X_bedInForce g d I D (nI q) t k b hb hB) ?_
  refine And.intro (fun c1 => ?_) (fun c1 => ?_)
  · exact And.intro (by decide) (And.intro (by simp [c1, bI]) (And.intro rfl rfl))
  refine And.intro (inn_nI hq (by decide)) ?_
  rw [nI_clamp (show q < 2 ^ 31 by omega)]
  refine call_eq (c_X_inForce g d I D _ t k n hn hI) ?_
  refine And.intro (fun c2 => ?_) (fun c2 => ?_)
  · exact And.intro (by decide) (And.intro (by simp [c2, bI]) (And.intro rfl rfl))
  · exact And.intro (by decide) (And.intro (by simp [c1, c2, bI]) (And.intro rfl rfl))
theorem dp_fb {v : Int32} {h : UInt64} (hh : fb 300 h) : fb 301 (FP.dadd (FP.ddiv (FP.i2d v) 4636737291354636288) h) := fb_add (E := 300) (by omega) (fb_mono (by omega) (mn_fb v)) hh
theorem hgtX_fb (n : Nat) (hn : n ≤ 60) (hw : ∀ i, i < n → ∃ w, w ≤ 8 ∧ I 20 i = nI w) (s t k : Int32) (h : ¬ ifF (I 16) (I 17) (I 18) s t k n = -1) : fb 300 (hgtX I n s t k) := by
  unfold hgtX
  rw [if_neg h]
  rcases ifF_in (I 16) (I 17) (I 18) s t k n with h1 | ⟨j, hj, h1⟩
  · exact absurd h1 h
  · obtain ⟨w, hw8, hwe⟩ := hw j hj
    rw [h1, nI_clamp (show j < 2 ^ 31 by omega), hwe, nI_clamp (show w < 2 ^ 31 by omega)]
    exact fb_mono (by omega) (hG_fb _ _ _ w (by omega))
end S35
