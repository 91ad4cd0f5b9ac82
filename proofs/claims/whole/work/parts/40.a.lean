theorem mask64 (x : Int64) : (x &&& 65535).toInt32 = nI (x.toInt % 65536).toNat := by
  apply Int32.toBitVec_inj.mp
  show ((x &&& 65535).toBitVec.signExtend 32) = _
  apply BitVec.eq_of_toNat_eq
  rw [BitVec.signExtend_eq_setWidth_of_le _ (by decide), BitVec.toNat_setWidth]
  have h1 : (x &&& 65535).toBitVec.toNat = x.toBitVec.toNat % 65536 := by
    show (x.toBitVec &&& (65535 : Int64).toBitVec).toNat = _
    rw [BitVec.toNat_and]
    show x.toBitVec.toNat &&& (2 ^ 16 - 1) = _
    rw [Nat.and_two_pow_sub_one_eq_mod]
  have h2 : x.toInt % 65536 = ((x.toBitVec.toNat % 65536 : Nat) : Int) := by
    have e : x.toInt = (x.toBitVec.toNat : Int).bmod (2 ^ 64) := BitVec.toInt_eq_toNat_bmod _
    rw [e, Int.bmod_def]
    split <;> omega
  rw [h1, h2, Int.toNat_natCast]
  have h3 : x.toBitVec.toNat % 65536 < 65536 := Nat.mod_lt _ (by decide)
  generalize x.toBitVec.toNat % 65536 = k at h3
  have h4 : (nI k).toBitVec.toNat = k := by
    have := nI_toInt (n := k) (by omega)
    have e : (nI k).toInt = ((nI k).toBitVec.toNat : Int).bmod (2 ^ 32) := BitVec.toInt_eq_toNat_bmod _
    have e2 : (nI k).toBitVec.toNat < 2 ^ 32 := (nI k).toBitVec.isLt
    rw [e, Int.bmod_def] at this
    split at this <;> omega
  rw [h4]
  omega
theorem modN_val (a : Int32) : modN a = nI (a.toInt % 65536).toNat := by
  have h1 := Int32.le_toInt a
  have h2 := Int32.toInt_lt a
  have c0 : ((65536 : Int32)).toInt = 65536 := by decide
  have z0 : ((0 : Int32)).toInt = 0 := by decide
  have hm : a.toInt.tdiv 65536 = (if 0 ≤ a.toInt then a.toInt / 65536 else -((-a.toInt) / 65536)) := by
    split
    next h => exact Int.tdiv_eq_ediv_of_nonneg h
    next h =>
      have e : a.toInt = -(-a.toInt) := by omega
      rw [e, Int.neg_tdiv, Int.tdiv_eq_ediv_of_nonneg (by omega)]
      omega
  have hq : (a / 65536).toInt = a.toInt.tdiv 65536 := by
    rw [Int32.toInt_div, c0, hm]
    split <;> exact Int.bmod_eq_of_le (by omega) (by omega)
  have hp : (a / 65536 * 65536).toInt = a.toInt.tdiv 65536 * 65536 := by
    rw [Int32.toInt_mul, hq, c0, hm]
    split <;> exact Int.bmod_eq_of_le (by omega) (by omega)
  have hs : (a - a / 65536 * 65536).toInt = a.toInt - a.toInt.tdiv 65536 * 65536 := by
    rw [Int32.toInt_sub, hp, hm]
    split <;> exact Int.bmod_eq_of_le (by omega) (by omega)
  apply Int32.toInt_inj.mp
  rw [nI_toInt (by omega)]
  unfold modN
  by_cases h : 0 ≤ a - a / 65536 * 65536
  · rw [if_pos h]
    rw [i32_le, hs, z0] at h
    rw [hs]
    rw [hm] at h ⊢
    split at h <;> rename_i h3 <;> simp only [h3, if_true, if_false] <;> omega
  · rw [if_neg h]
    rw [i32_le, hs, z0] at h
    rw [Int32.toInt_add, hs, c0]
    rw [hm] at h ⊢
    split at h <;> rename_i h3 <;> simp only [h3, if_true, if_false] <;> rw [Int.bmod_eq_of_le (by omega) (by omega)] <;> omega
theorem mask_mod (x : Int64) : (x &&& 65535).toInt32 = modN x.toInt32 := by
  rw [mask64, modN_val]
  congr 2
  rw [Int64.toInt_toInt32, Int.bmod_def]
  split <;> omega
theorem ang_eq (sp t ph : Int32) : angX sp t ph = angM sp t ph := by
  unfold angX angM
  rw [mask_mod]
  congr 1
  rw [Int64.toInt32_add]
  congr 1
  exact Int32.toInt32_toInt64 ph
theorem cos_eq (a : Int32) : (a.toInt64 &&& 65535).toInt32 = modN a := by
  rw [mask_mod]
  congr 1
  exact Int32.toInt32_toInt64 a
theorem cosN_ok (a : Int32) : FP.Core.DFin (cosN (modN a)) ∧ nz (cosN (modN a)) := by
  refine And.intro (fb_fin (cosN_fb _)) ?_
  rw [modN_val]
  exact cosN_nz (by rw [nI_toInt (by omega)]; omega) (by rw [nI_toInt (by omega)]; omega)
section S40
variable (g : Gp) (d : Nat) (I : MI) (D : MD)
theorem c_M_dtl (v : UInt64) (hv : FP.Core.DFin v) : Con g SHc (d + 1) 157 [.double v] I D (EqP (some (.long v.toInt64)) I D) := by
  have hn : FP.dcmp v v = some .eq := by
    obtain ⟨s, c, q, h⟩ := hv
    have := FP.Core.dcmp_zval (a := v) (b := v) (by rw [h]; intro h; cases h) (by rw [h]; intro h; cases h)
    refine (show FP.dcmp v v = _ from this).trans (congrArg some ((FP.Core.compare_eq_iff _ _).mpr rfl))
  have nan : Con g SHc d 158 [.double v] I D (EqP (some (.int 0)) I D) := by
    refine Con.mk (LV := v_Double_isNaN) k_Double_isNaN (Nat.le_of_ble_eq_true rfl) (fun K hK => ?_)
    refine hK (0, 12, o_Double_isNaN_0) (List.mem_of_getElem? (i := 0) rfl) _ _ _ _ ?_
    refine And.intro (fun c => ?_) (fun c => ?_)
    · exact And.intro (Or.inl rfl) (And.intro rfl (And.intro rfl rfl))
    · have c : ¬ Op.cmpValue (FP.dcmp v v) .l = 0 := c
      rw [hn] at c
      exact absurd (by decide) c
  refine Con.mk (LV := v_Double_doubleToLongBits) k_Double_doubleToLongBits (Nat.le_of_ble_eq_true rfl) (fun K hK => ?_)
  refine hK (0, 16, o_Double_doubleToLongBits_0) (List.mem_of_getElem? (i := 0) rfl) _ _ _ _ ?_
  refine call_eq (nan) ?_
  refine And.intro (fun c => ?_) (fun c => ?_)
  · exact absurd rfl c
  · exact And.intro rfl (And.intro rfl rfl)
theorem c_X_cos (a : Int32) : Con g SHc (d + 1) 11 [.ref 0, .int a] I D (EqP (some (.long (cosN (modN a)).toInt64)) I D) := by
  refine Con.mk (LV := v_X_cos) k_X_cos (Nat.le_of_ble_eq_true rfl) (fun K hK => ?_)
  refine hK (0, 9, o_X_cos_0) (List.mem_of_getElem? (i := 0) rfl) _ _ _ _ ?_
  refine call_eq (c_X_cosine g d I D a.toInt64) ?_
  rw [cos_eq]
  refine call_eq (c_X_bitsOf g d I D _ (cosN_ok a).1 (cosN_ok a).2) ?_
  exact And.intro rfl (And.intro rfl rfl)
theorem c_M_cos (a : Int32) : Con g SHc (d + 2) 155 [.ref 12, .int a] I D (EqP (some (.long (cosN (modN a)).toInt64)) I D) := by
  refine Con.mk (LV := v_M_cos) k_M_cos (Nat.le_of_ble_eq_true rfl) (fun K hK => ?_)
  refine hK (0, 8, o_M_cos_0) (List.mem_of_getElem? (i := 0) rfl) _ _ _ _ ?_
  refine call_eq (c_M_cosine g (d + 1) I D a) ?_
  refine call_eq (c_M_dtl g d I D _ (cosN_ok a).1) ?_
  exact And.intro rfl (And.intro rfl rfl)
theorem hgtX_nz (n : Nat) (hn : n ≤ 60) (hw : ∀ i, i < n → ∃ w, w ≤ 8 ∧ I 20 i = nI w) (s t k : Int32) (h : ¬ ifF (I 16) (I 17) (I 18) s t k n = -1) : nz (hgtX I n s t k) := by
  unfold hgtX
  rw [if_neg h]
  rcases ifF_in (I 16) (I 17) (I 18) s t k n with h1 | ⟨j, hj, h1⟩
  · exact absurd h1 h
  · obtain ⟨w, hw8, hwe⟩ := hw j hj
    rw [h1, nI_clamp (show j < 2 ^ 31 by omega), hwe, nI_clamp (show w < 2 ^ 31 by omega)]
    exact hG_nz _ _ _ w (by omega)
theorem hgtM_fb (n : Nat) (hn : n ≤ 60) (hw : ∀ i, i < n → ∃ w, w ≤ 8 ∧ I 79 i = nI w) (s t k : Int32) (h : ¬ ifF (I 75) (I 76) (I 77) s t k n = -1) : fb 300 (hgtM I n s t k) := by
  unfold hgtM
  rcases ifF_in (I 75) (I 76) (I 77) s t k n with h1 | ⟨j, hj, h1⟩
  · exact absurd h1 h
  · obtain ⟨w, hw8, hwe⟩ := hw j hj
    rw [h1, nI_clamp (show j < 2 ^ 31 by omega), hwe, nI_clamp (show w < 2 ^ 31 by omega)]
    exact fb_mono (by omega) (hG_fb _ _ _ w (by omega))
def XF : Int64 := 9221120237041090560
theorem c_X_height (n : Nat) (hn : n ≤ 60) (hI : I 2 9 = nI n) (hw : ∀ i, i < n → ∃ w, w ≤ 8 ∧ I 20 i = nI w) (s t k : Int32) : Con g SHc (d + 2) 14 [.ref 0, .int s, .int t, .int k] I D (EqP (some (.long (if (wi s 0 11 && wi t 0 2591999 && wi k 0 (I 0 11)) = true then (if 3000 ≤ I 1 0 then 9221120237041090560 else if ifF (I 16) (I 17) (I 18) s t k n = -1 then 9221120237041090560 else (hgtX I n s t k).toInt64) else 9221120237041090560))) (if (wi s 0 11 && wi t 0 2591999 && wi k 0 (I 0 11)) = true then (if 3000 ≤ I 1 0 then I else if ifF (I 16) (I 17) (I 18) s t k n = -1 then tellX 1 I else I) else I) D) := by
  refine Con.mk (LV := v_X_height) k_X_height (Nat.le_of_ble_eq_true rfl) (fun K hK => ?_)
  refine hK (0, 77, o_X_height_0) (List.mem_of_getElem? (i := 0) rfl) _ _ _ _ ?_
  refine call_eq (c_X_isStation g (d + 1) I D s) ?_
  refine And.intro (fun c1 => ?_) (fun c1 => ?_)
  · exact And.intro (by simp [bI_0.mp c1]) (And.intro (by first | (simp [bI_0.mp c1]; done) | (simp [bI_0.mp c1]; rfl)) (by first | rfl | simp [bI_0.mp c1]))
  refine call_eq (c_X_isMoment g (d + 1) I D t) ?_
  refine And.intro (fun c2 => ?_) (fun c2 => ?_)
  · exact And.intro (by simp [bI_0.mp c2]) (And.intro (by first | (simp [bI_0.mp c2]; done) | (simp [bI_0.mp c2]; rfl)) (by first | rfl | simp [bI_0.mp c2]))
  refine call_eq (c_X_isPast g (d + 1) I D k) ?_
  have h1 := bI_n0.mp c1
  have h2 := bI_n0.mp c2
  refine And.intro (fun c3 => ?_) (fun c3 => ?_)
  · exact And.intro (by simp [bI_0.mp c3]) (And.intro (by first | (simp [bI_0.mp c3]; done) | (simp [bI_0.mp c3]; rfl)) (by first | rfl | simp [bI_0.mp c3]))
  have h3 := bI_n0.mp c3
  refine call_eq (c_X_areSpent g (d + 1) I D) ?_
  refine And.intro (fun c4 => ?_) (fun c4 => ?_)
  · have h4 : ¬ 3000 ≤ I 1 0 := of_decide_eq_false (bI_0.mp c4)
    refine call_eq (c_X_inForce g (d + 1) I D s t k n hn hI) ?_
    refine And.intro (fun c5 => ?_) (fun c5 => ?_)
    · refine call_eq (c_X_heightAt g d I D s t k n hn hI hw) ?_
      refine call_eq (c_X_bitsOf g (d + 1) I D _ (fb_fin (hgtX_fb I n hn hw s t k c5)) (hgtX_nz I n hn hw s t k c5)) ?_
      exact And.intro (by simp [h1, h2, h3, h4, c5]) (And.intro (by first | (simp [h1, h2, h3, h4, c5]; done) | (simp [h1, h2, h3, h4, c5]; rfl)) (by first | rfl | simp [h1, h2, h3, h4, c5]))
    · refine call_eq (c_X_tell g (d + 1) I D 1) ?_
      exact And.intro (by simp [h1, h2, h3, h4, c5]) (And.intro (by first | (simp [h1, h2, h3, h4, c5]; done) | (simp [h1, h2, h3, h4, c5]; rfl)) (by first | rfl | simp [h1, h2, h3, h4, c5]))
  · exact And.intro (by simp [h1, h2, h3, of_decide_eq_true (bI_n0.mp c4)]) (And.intro (by first | (simp [h1, h2, h3, of_decide_eq_true (bI_n0.mp c4)]; done) | (simp [h1, h2, h3, of_decide_eq_true (bI_n0.mp c4)]; rfl)) (by first | rfl | simp [h1, h2, h3, of_decide_eq_true (bI_n0.mp c4)]))
theorem c_M_height (n : Nat) (hn : n ≤ 60) (hI : I 12 8 = nI n) (hw : ∀ i, i < n → ∃ w, w ≤ 8 ∧ I 79 i = nI w) (s t k : Int32) : Con g SHc (d + 3) 159 [.ref 12, .int s, .int t, .int k] I D (EqP (some (.long (if (wi s 0 11 && wi t 0 2591999 && wi k 0 (I 12 0)) = true then (if 3000 ≤ I 12 2 then 9221120237041090560 else if ifF (I 75) (I 76) (I 77) s t k n = -1 then 9221120237041090560 else (hgtM I n s t k).toInt64) else 9221120237041090560))) (if (wi s 0 11 && wi t 0 2591999 && wi k 0 (I 12 0)) = true then (if 3000 ≤ I 12 2 then I else if ifF (I 75) (I 76) (I 77) s t k n = -1 then tellM 1 I else I) else I) (if (wi s 0 11 && wi t 0 2591999 && wi k 0 (I 12 0)) = true then (if 3000 ≤ I 12 2 then D else if ifF (I 75) (I 76) (I 77) s t k n = -1 then D else up2 D 12 17 (hgtM I n s t k)) else D)) := by
  refine Con.mk (LV := v_M_height) k_M_height (Nat.le_of_ble_eq_true rfl) (fun K hK => ?_)
  refine hK (0, 55, o_M_height_0) (List.mem_of_getElem? (i := 0) rfl) _ _ _ _ ?_
  refine call_eq (c_M_isStation g (d + 1) I D s) ?_
  refine And.intro (fun c1 => ?_) (fun c1 => ?_)
  · exact And.intro (by simp [bI_0.mp c1]) (And.intro (by first | (simp [bI_0.mp c1]; done) | (simp [bI_0.mp c1]; rfl)) (by first | rfl | simp [bI_0.mp c1]))
  refine call_eq (c_M_isKnowing g d I D t k) ?_
  have h1 := bI_n0.mp c1
  refine And.intro (fun c2 => ?_) (fun c2 => ?_)
  · exact And.intro (by simp [Bool.and_assoc, bI_0.mp c2]) (And.intro (by first | (simp [Bool.and_assoc, bI_0.mp c2]; done) | (simp [Bool.and_assoc, bI_0.mp c2]; rfl)) (by first | rfl | simp [Bool.and_assoc, bI_0.mp c2]))
  have h23 := bI_n0.mp c2
  have h2 := (Bool.and_eq_true _ _ ▸ h23 : wi t 0 2591999 = true ∧ wi k 0 (I 12 0) = true).1
  have h3 := (Bool.and_eq_true _ _ ▸ h23 : wi t 0 2591999 = true ∧ wi k 0 (I 12 0) = true).2
  refine call_eq (c_M_isFull g (d + 2) I D) ?_
  refine And.intro (fun c4 => ?_) (fun c4 => ?_)
  · have h4 : ¬ 3000 ≤ I 12 2 := of_decide_eq_false (bI_0.mp c4)
    refine call_eq (c_M_rises g (d + 1) I D s t k n hn hI hw) ?_
    by_cases c5 : ifF (I 75) (I 76) (I 77) s t k n = -1
    · rw [decide_eq_true c5, show (if ifF (I 75) (I 76) (I 77) s t k n = -1 then D else up2 D 12 17 (hgtM I n s t k)) = D from if_pos c5]
      refine And.intro (fun z => absurd rfl z) (fun _ => ?_)
      refine call_eq (c_M_fails g (d + 2) I D 1) ?_
      exact And.intro (by simp [h1, h2, h3, h4, c5]) (And.intro (by first | (simp [h1, h2, h3, h4, c5]; done) | (simp [h1, h2, h3, h4, c5]; rfl)) (by first | rfl | simp [h1, h2, h3, h4, c5]))
    · rw [decide_eq_false c5, show (if ifF (I 75) (I 76) (I 77) s t k n = -1 then D else up2 D 12 17 (hgtM I n s t k)) = up2 D 12 17 (hgtM I n s t k) from if_neg c5]
      refine And.intro (fun _ => ?_) (fun z => absurd z (by decide))
      refine call_eq (c_M_dtl g (d + 1) I (up2 D 12 17 (hgtM I n s t k)) (hgtM I n s t k) (fb_fin (hgtM_fb I n hn hw s t k c5))) ?_
      exact And.intro (by simp [h1, h2, h3, h4, c5]) (And.intro (by first | (simp [h1, h2, h3, h4, c5]; done) | (simp [h1, h2, h3, h4, c5]; rfl)) (by first | rfl | simp [h1, h2, h3, h4, c5]))
  · exact And.intro (by simp [h1, h2, h3, of_decide_eq_true (bI_n0.mp c4)]) (And.intro (by first | (simp [h1, h2, h3, of_decide_eq_true (bI_n0.mp c4)]; done) | (simp [h1, h2, h3, of_decide_eq_true (bI_n0.mp c4)]; rfl)) (by first | rfl | simp [h1, h2, h3, of_decide_eq_true (bI_n0.mp c4)]))
end S40
