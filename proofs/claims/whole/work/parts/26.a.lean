/-! gauges: told, read, in and out -/
/-- from 0 on, below n -/
def ix (v n : Int32) : Bool := decide (0 ≤ v) && decide (v < n)
theorem i32_m1 {n : Nat} (hn : n < 2 ^ 31) : (nI n - 1).toInt = (n : Int) - 1 := by
  cases n with
  | zero => decide
  | succ n =>
    rw [nI_pred, nI_toInt (by omega)]
    omega
theorem ix_wi {v : Int32} {n : Nat} (hn : n < 2 ^ 31) : wi v 0 (nI n - 1) = ix v (nI n) := by
  unfold wi ix
  congr 1
  apply decide_eq_decide.mpr
  rw [i32_le, i32_lt, i32_m1 hn, nI_toInt hn]
  omega
theorem ix_nI {v : Int32} {n : Nat} (hn : n < 2 ^ 31) (h : ix v (nI n) = true) : ∃ j, j < n ∧ v = nI j := by
  unfold ix at h
  simp only [Bool.and_eq_true, decide_eq_true_eq] at h
  obtain ⟨j, h1, h2⟩ := nI_of (x := v) (by rw [i32_nlt]; exact h.1)
  refine ⟨j, ?_, h2⟩
  rw [h2] at h
  exact (nI_ltI h1 hn).mp h.2
section S26
variable (g : Gp) (d : Nat) (I : MI) (D : MD)
def gaX (I : MI) (s f p : Int32) : MI := up2 (up2 (up2 (up2 I 22 (I 3 9).toNatClampNeg s) 23 (I 3 9).toNatClampNeg f) 24 (I 3 9).toNatClampNeg p) 3 9 (I 3 9 + 1)
def gaM (I : MI) (s f p : Int32) : MI := up2 (up2 (up2 (up2 I 83 (I 12 18).toNatClampNeg s) 84 (I 12 18).toNatClampNeg f) 85 (I 12 18).toNatClampNeg p) 12 18 (I 12 18 + 1)
theorem c_X_gadd (n : Nat) (hn : n ≤ 10) (hI : I 3 9 = nI n) (s f p : Int32) : Con g SHc d 22 [.ref 3, .int s, .int f, .int p] I D (EqP (some (.int (if n < 10 then nI n else -4))) (if n < 10 then gaX I s f p else I) D) := by
  refine Con.mk (LV := v_Gauges_add) k_Gauges_add (Nat.le_of_ble_eq_true rfl) (fun K hK => ?_)
  refine hK (0, 59, o_Gauges_add_0) (List.mem_of_getElem? (i := 0) rfl) _ _ _ _ ?_
  refine And.intro (fun c1 => ?_) (fun c1 => ?_)
  · rw [hI] at c1
    have c1 : n < 10 := (nI_ltI (by omega) (by decide)).mp c1
    have hI0 : ∀ z : MI, z 3 9 = nI n → inn (z 3 9) 10 := fun z h => by rw [h]; exact inn_nI c1 (by decide)
    rw [if_pos c1, if_pos c1]
    refine And.intro (hI0 I hI) ?_
    refine And.intro (hI0 _ hI) ?_
    refine And.intro (hI0 _ hI) ?_
    refine And.intro ?_ (And.intro rfl rfl)
    rw [up2_at]
    exact congrArg (fun z => some (Value.int z)) ((congrArg (fun z : Int32 => z + 1 - 1) hI).trans (by rw [nI_1, nI_pred]))
  · rw [hI] at c1
    have c1 : ¬ n < 10 := fun h => c1 ((nI_ltI (by omega) (by decide)).mpr h)
    rw [if_neg c1, if_neg c1]
    exact And.intro rfl (And.intro rfl rfl)
theorem c_X_gauge (n : Nat) (hn : n ≤ 10) (hI : I 3 9 = nI n) (s f p : Int32) : Con g SHc (d + 1) 21 [.ref 0, .int s, .int f, .int p] I D (EqP (some (.int (if (wi s 0 11 && wi f 0 2591999 && wi p 60 7200) = true then (if n < 10 then nI n else -4) else -2))) (if (wi s 0 11 && wi f 0 2591999 && wi p 60 7200) = true then (if n < 10 then gaX I s f p else I) else I) D) := by
  refine Con.mk (LV := v_X_gauge) k_X_gauge (Nat.le_of_ble_eq_true rfl) (fun K hK => ?_)
  refine hK (0, 40, o_X_gauge_0) (List.mem_of_getElem? (i := 0) rfl) _ _ _ _ ?_
  clear hK
  repeat' (first | (refine And.intro (fun _ => ?_) (fun _ => ?_)) | (refine call_eq (c_X_gadd g _ _ _ n hn hI _ _ _) ?_) | (refine call_eq (c_X_isWithin g _ _ _ _ _ _) ?_) | (refine call_eq (c_X_isMoment g _ _ _ _) ?_) | (refine call_eq (c_X_isDay g _ _ _ _) ?_) | (refine call_eq (c_X_isMinute g _ _ _ _) ?_) | (refine call_eq (c_X_isStation g _ _ _ _) ?_) | (refine call_eq (c_X_isFleet g _ _ _ _) ?_) | (refine call_eq (c_X_isRoute g _ _ _ _) ?_) | (refine call_eq (c_X_isGauge g _ _ _ _) ?_) | (refine call_eq (c_X_isShoal g _ _ _ _) ?_) | (refine call_eq (c_X_isShip g _ _ _ _) ?_) | (refine call_eq (c_X_isPassage g _ _ _ _) ?_) | (refine call_eq (c_X_isShipOrNothing g _ _ _ _) ?_) | (refine call_eq (c_X_isPast g _ _ _ _) ?_) | (refine call_eq (c_X_isBed g _ _ _ _) ?_) | (refine call_eq (c_X_areSpent g _ _ _) ?_) | (refine call_eq (c_X_tell g _ _ _ _) ?_) | (refine call_eq (c_X_isNoFloat g _ _ _ _) ?_) | (refine call_eq (c_X_isMark g _ _ _ _) ?_))
  all_goals (refine And.intro ?_ (And.intro ?_ ?_) <;> (first | rfl | (simp_all [bI_0, bI_n0]; done) | (simp_all [bI_0, bI_n0, i32_lt, i32_le] <;> omega)))
theorem c_X_faultAt (j : Nat) (hj : j < 10) (i : Int32) : Con g SHc d 30 [.ref 3, .int (nI j), .int i] I D (EqP (some (.int (if I 25 j = 0 then (if ix i (I 26 j) = true then 0 else 2) else 1))) I D) := by
  have hc : (nI j).toNatClampNeg = j := nI_clamp (by omega)
  have hi : inn (nI j) 10 := inn_nI hj (by decide)
  refine Con.mk (LV := v_Gauges_faultAt) k_Gauges_faultAt (Nat.le_of_ble_eq_true rfl) (fun K hK => ?_)
  refine hK (0, 31, o_Gauges_faultAt_0) (List.mem_of_getElem? (i := 0) rfl) _ _ _ _ ?_
  clear hK
  repeat' (first | (refine And.intro (fun _ => ?_) (fun _ => ?_)) | (refine And.intro (hi) ?_) | (refine call_eq (c_X_isWithin g _ _ _ _ _ _) ?_) | (refine call_eq (c_X_isMoment g _ _ _ _) ?_) | (refine call_eq (c_X_isDay g _ _ _ _) ?_) | (refine call_eq (c_X_isMinute g _ _ _ _) ?_) | (refine call_eq (c_X_isStation g _ _ _ _) ?_) | (refine call_eq (c_X_isFleet g _ _ _ _) ?_) | (refine call_eq (c_X_isRoute g _ _ _ _) ?_) | (refine call_eq (c_X_isGauge g _ _ _ _) ?_) | (refine call_eq (c_X_isShoal g _ _ _ _) ?_) | (refine call_eq (c_X_isShip g _ _ _ _) ?_) | (refine call_eq (c_X_isPassage g _ _ _ _) ?_) | (refine call_eq (c_X_isShipOrNothing g _ _ _ _) ?_) | (refine call_eq (c_X_isPast g _ _ _ _) ?_) | (refine call_eq (c_X_isBed g _ _ _ _) ?_) | (refine call_eq (c_X_areSpent g _ _ _) ?_) | (refine call_eq (c_X_tell g _ _ _ _) ?_) | (refine call_eq (c_X_isNoFloat g _ _ _ _) ?_) | (refine call_eq (c_X_isMark g _ _ _ _) ?_))
  all_goals (refine And.intro ?_ (And.intro ?_ ?_) <;> (first | rfl | (simp_all [bI_0, bI_n0, hc, ix]; done) | (simp_all [bI_0, bI_n0, i32_lt, i32_le, hc, ix] <;> omega)))
theorem c_M_reads (j n : Nat) (hj : j < 10) (hn : n < 2 ^ 31) (hI : I 87 j = nI n) (i : Int32) : Con g SHc (d + 1) 173 [.ref 12, .int (nI j), .int i] I D (EqP (some (.int (if I 86 j = 0 then (if ix i (I 87 j) = true then 0 else 2) else 1))) I D) := by
  have hc : (nI j).toNatClampNeg = j := nI_clamp (by omega)
  have hi : inn (nI j) 10 := inn_nI hj (by decide)
  refine Con.mk (LV := v_M_reads) k_M_reads (Nat.le_of_ble_eq_true rfl) (fun K hK => ?_)
  refine hK (0, 35, o_M_reads_0) (List.mem_of_getElem? (i := 0) rfl) _ _ _ _ ?_
  clear hK
  repeat' (first | (refine And.intro (fun _ => ?_) (fun _ => ?_)) | (refine And.intro (hi) ?_) | (refine call_eq (c_M_in g _ _ _ _ _ _) ?_) | (refine call_eq (c_M_isMoment g _ _ _ _) ?_) | (refine call_eq (c_M_isMinute g _ _ _ _) ?_) | (refine call_eq (c_M_isStation g _ _ _ _) ?_) | (refine call_eq (c_M_isFleet g _ _ _ _) ?_) | (refine call_eq (c_M_isRoute g _ _ _ _) ?_) | (refine call_eq (c_M_isGauge g _ _ _ _) ?_) | (refine call_eq (c_M_isShoal g _ _ _ _) ?_) | (refine call_eq (c_M_isShip g _ _ _ _) ?_) | (refine call_eq (c_M_isPassage g _ _ _ _) ?_) | (refine call_eq (c_M_isPart g _ _ _ _) ?_) | (refine call_eq (c_M_isKnowing g _ _ _ _ _) ?_) | (refine call_eq (c_M_isFull g _ _ _) ?_) | (refine call_eq (c_M_fails g _ _ _ _) ?_) | (refine call_eq (c_M_isNoFloat g _ _ _ _) ?_))
  all_goals (refine And.intro ?_ (And.intro ?_ ?_) <;> (first | rfl | (simp_all [bI_0, bI_n0, hc, ix_wi hn]; done) | (simp_all [bI_0, bI_n0, i32_lt, i32_le, hc, ix_wi hn] <;> omega)))
def rdX (I : MI) (j n : Nat) (v a : Int32) : MI := up2 (up2 (up2 I 27 (120 * j + n) v) 28 (120 * j + n) a) 26 j (nI (n + 1))
def rdM (I : MI) (j n : Nat) (v a : Int32) : MI := up2 (up2 (up2 I 88 (120 * j + n) v) 89 (120 * j + n) a) 87 j (nI (n + 1))
theorem sh_same {v : Int32} (h : wi v (-32768) 32767 = true) : vp_nar .short v.toInt16.toInt32 = v := by
  rw [pk_vs]
  unfold wi at h
  simp only [Bool.and_eq_true, decide_eq_true_eq, i32_le] at h
  obtain ⟨h1, h2⟩ := h
  have e1 : ((-32768 : Int32)).toInt = -32768 := by decide
  have e2 : ((32767 : Int32)).toInt = 32767 := by decide
  rw [e1] at h1
  rw [e2] at h2
  apply Int32.toInt_inj.mp
  rw [Int16.toInt_toInt32, Int32.toInt_toInt16]
  exact Int.bmod_eq_of_le (by omega) (by omega)
theorem c_X_momentOf (j : Nat) (hj : j < 10) (i : Int32) : Con g SHc d 25 [.ref 3, .int (nI j), .int i] I D (EqP (some (.int (I 23 j + i * I 24 j))) I D) := by
  have hc : (nI j).toNatClampNeg = j := nI_clamp (by omega)
  have hi : inn (nI j) 10 := inn_nI hj (by decide)
  refine Con.mk (LV := v_Gauges_momentOf) k_Gauges_momentOf (Nat.le_of_ble_eq_true rfl) (fun K hK => ?_)
  refine hK (0, 16, o_Gauges_momentOf_0) (List.mem_of_getElem? (i := 0) rfl) _ _ _ _ ?_
  refine And.intro (hi) ?_
  refine And.intro (hi) ?_
  rw [hc]
  exact And.intro rfl (And.intro rfl rfl)
theorem c_M_momentOf (j : Nat) (hj : j < 10) (i : Int32) : Con g SHc d 169 [.ref 12, .int (nI j), .int i] I D (EqP (some (.int (I 84 j + i * I 85 j))) I D) := by
  have hc : (nI j).toNatClampNeg = j := nI_clamp (by omega)
  have hi : inn (nI j) 10 := inn_nI hj (by decide)
  refine Con.mk (LV := v_M_momentOf) k_M_momentOf (Nat.le_of_ble_eq_true rfl) (fun K hK => ?_)
  refine hK (0, 16, o_M_momentOf_0) (List.mem_of_getElem? (i := 0) rfl) _ _ _ _ ?_
  refine And.intro (hi) ?_
  refine And.intro (hi) ?_
  rw [hc]
  exact And.intro rfl (And.intro rfl rfl)
theorem c_X_addReading (j n : Nat) (hj : j < 10) (hn : n < 120) (hI : I 26 j = nI n) (v a : Int32) (hv : wi v (-32768) 32767 = true) : Con g SHc d 27 [.ref 3, .int (nI j), .int v, .int a] I D (EqP (some (.int (nI (n + 1)))) (rdX I j n v a) D) := by
  have hc : (nI j).toNatClampNeg = j := nI_clamp (by omega)
  have hi : inn (nI j) 10 := inn_nI hj (by decide)
  have e1 : nI j * 120 + nI n = nI (120 * j + n) := by rw [show (120 : Int32) = nI 120 from rfl, pk_mul, nI_add, Nat.mul_comm]
  have b1 : inn (nI (120 * j + n)) 1200 := inn_nI (by omega) (by decide)
  refine Con.mk (LV := v_Gauges_addReading) k_Gauges_addReading (Nat.le_of_ble_eq_true rfl) (fun K hK => ?_)
  refine hK (0, 47, o_Gauges_addReading_0) (List.mem_of_getElem? (i := 0) rfl) _ _ _ _ ?_
  refine And.intro (hi) ?_
  rw [hc, hI]
  refine And.intro (by rw [e1]; exact b1) ?_
  rw [e1, sh_same hv]
  refine And.intro (b1) ?_
  refine And.intro (hi) ?_
  refine And.intro (hi) ?_
  refine And.intro (hi) ?_
  rw [hc, nI_clamp (show 120 * j + n < 2 ^ 31 by omega)]
  have e5 : I 26 j + 1 = nI (n + 1) := by rw [hI]; exact nI_1 n
  refine And.intro ?_ (And.intro ?_ rfl)
  · rw [up2_at]
    exact congrArg (fun z => some (Value.int z)) e5
  · exact congrArg (up2 _ _ _) e5
/-- what reading() answers and does, by the numbers it looks at -/
theorem c_X_reading (n : Nat) (hn : n ≤ 10) (hI : I 3 9 = nI n) (hs : ∀ j, j < n → ∃ r, r ≤ 120 ∧ I 26 j = nI r) (ga v a : Int32) : Con g SHc (d + 1) 23 [.ref 0, .int ga, .int v, .int a] I D
    (EqP (some (.int (if (ix ga (nI n) && wi v (-32768) 32767) = true then (if I 0 11 < I 23 ga.toNatClampNeg + I 26 ga.toNatClampNeg * I 24 ga.toNatClampNeg then -3 else if (decide (120 ≤ I 26 ga.toNatClampNeg) || decide (3000 ≤ I 1 0)) = true then -4 else if I 25 ga.toNatClampNeg = 0 then I 26 ga.toNatClampNeg + 1 else -11) else -2)))
      (if (ix ga (nI n) && wi v (-32768) 32767) = true then (if I 0 11 < I 23 ga.toNatClampNeg + I 26 ga.toNatClampNeg * I 24 ga.toNatClampNeg then I else if (decide (120 ≤ I 26 ga.toNatClampNeg) || decide (3000 ≤ I 1 0)) = true then I else if I 25 ga.toNatClampNeg = 0 then rdX I ga.toNatClampNeg (I 26 ga.toNatClampNeg).toNatClampNeg v (if noF a = true then 2143289344 else a) else tellX 1 I) else I) D) := by
  refine Con.mk (LV := v_X_reading) k_X_reading (Nat.le_of_ble_eq_true rfl) (fun K hK => ?_)
  refine hK (0, 122, o_X_reading_0) (List.mem_of_getElem? (i := 0) rfl) _ _ _ _ ?_
  refine call_eq (c_X_isGauge g d I D ga) ?_
  rw [hI]
  refine And.intro (fun c1 => ?_) (fun c1 => ?_)
  · exact And.intro (by simp [bI_0.mp c1, ix]) (And.intro (by simp [bI_0.mp c1, ix]) (by first | rfl | simp [bI_0.mp c1, ix]))
  have h1 : ix ga (nI n) = true := bI_n0.mp c1
  obtain ⟨j, hj, rfl⟩ := ix_nI (by omega) h1
  have hc : (nI j).toNatClampNeg = j := nI_clamp (by omega)
  have hi : inn (nI j) 10 := inn_nI (by omega) (by decide)
  obtain ⟨r, hr, he⟩ := hs j hj
  rw [h1, hc]
  refine call_eq (c_X_isWithin g d I D v (-32768) 32767) ?_
  refine And.intro (fun c2 => ?_) (fun c2 => ?_)
  · have h2 := bI_n0.mp c2
    rw [h2]
    refine And.intro (hi) ?_
    rw [hc]
    refine call_eq (c_X_momentOf g d I D j (by omega) _) ?_
    refine And.intro (fun c3 => ?_) (fun c3 => ?_)
    · refine And.intro (hi) ?_
      rw [hc]
      refine And.intro (fun c4 => ?_) (fun c4 => ?_)
      · exact And.intro (by simp [c4, i32_nlt.mpr c3]) (And.intro (by simp [c4, i32_nlt.mpr c3]) (by first | rfl | simp [c4, i32_nlt.mpr c3]))
      · refine call_eq (c_X_areSpent g d I D) ?_
        refine And.intro (fun c5 => ?_) (fun c5 => ?_)
        · refine And.intro (hi) ?_
          rw [hc]
          have h5 := bI_0.mp c5
          refine And.intro (fun c6 => ?_) (fun c6 => ?_)
          · refine call_eq (c_X_isNoFloat g d I D a) ?_
            rw [he] at c4 c3
            have hr2 : r < 120 := by
              rcases Nat.lt_or_ge r 120 with h | h
              · exact h
              · exact absurd (nI_le (a := 120) h (by omega)) c4
            refine And.intro (fun c7 => ?_) (fun c7 => ?_)
            · refine call_eq (c_X_addReading g d I D j r (by omega) hr2 he v a h2) ?_
              exact And.intro (by simp [c4, i32_nlt.mpr c3, h5, c6, bI_0.mp c7, he, nI_1, nI_clamp (show r < 2 ^ 31 by omega)]) (And.intro (by simp [c4, i32_nlt.mpr c3, h5, c6, bI_0.mp c7, he, nI_1, nI_clamp (show r < 2 ^ 31 by omega)]) (by first | rfl | simp [c4, i32_nlt.mpr c3, h5, c6, bI_0.mp c7, he, nI_1, nI_clamp (show r < 2 ^ 31 by omega)]))
            · refine call_eq (c_X_addReading g d I D j r (by omega) hr2 he v 2143289344 h2) ?_
              exact And.intro (by simp [c4, i32_nlt.mpr c3, h5, c6, bI_n0.mp c7, he, nI_1, nI_clamp (show r < 2 ^ 31 by omega)]) (And.intro (by simp [c4, i32_nlt.mpr c3, h5, c6, bI_n0.mp c7, he, nI_1, nI_clamp (show r < 2 ^ 31 by omega)]) (by first | rfl | simp [c4, i32_nlt.mpr c3, h5, c6, bI_n0.mp c7, he, nI_1, nI_clamp (show r < 2 ^ 31 by omega)]))
          · refine call_eq (c_X_tell g d I D 1) ?_
            exact And.intro (by simp [c4, i32_nlt.mpr c3, h5, c6]) (And.intro (by simp [c4, i32_nlt.mpr c3, h5, c6]) (by first | rfl | simp [c4, i32_nlt.mpr c3, h5, c6]))
        · exact And.intro (by simp [c4, i32_nlt.mpr c3, bI_n0.mp c5]) (And.intro (by simp [c4, i32_nlt.mpr c3, bI_n0.mp c5]) (by first | rfl | simp [c4, i32_nlt.mpr c3, bI_n0.mp c5]))
    · exact And.intro (by simp [i32_nle.mp c3]) (And.intro (by simp [i32_nle.mp c3]) (by first | rfl | simp [i32_nle.mp c3]))
  · exact And.intro (by simp [bI_0.mp c2]) (And.intro (by simp [bI_0.mp c2]) (by first | rfl | simp [bI_0.mp c2]))
end S26
