/-! HEIGHT: a mean and waves -/
def hG (mean : Int32) (sz an : Nat → Int32) : Nat → UInt64
  | 0 => FP.ddiv (FP.i2d mean) 4636737291354636288
  | w + 1 => FP.dadd (hG mean sz an w) (FP.dmul (FP.ddiv (FP.i2d (sz w)) 4652007308841189376) (cosN (an w)))
def angX (sp t ph : Int32) : Int32 := ((ph.toInt64 + sp.toInt64 * t.toInt64 / 1000) &&& 65535).toInt32
def angM (sp t ph : Int32) : Int32 := modN (ph + (sp.toInt64 * t.toInt64 / 1000).toInt32)
theorem sz_fb (v : Int32) : fb 31 (FP.ddiv (FP.i2d v) 4652007308841189376) := fb_div (by omega) (fb_i2d (by omega) (i32_abs v)) ge1_1000
theorem mn_fb (v : Int32) : fb 31 (FP.ddiv (FP.i2d v) 4636737291354636288) := fb_div (by omega) (fb_i2d (by omega) (i32_abs v)) ge1_100
theorem wv_fb (v n : Int32) : fb 283 (FP.dmul (FP.ddiv (FP.i2d v) 4652007308841189376) (cosN n)) := fb_mul (E := 31) (F := 252) (by omega) (sz_fb v) (cosN_fb n)
theorem hG_fb (mean : Int32) (sz an : Nat → Int32) : ∀ w, w ≤ 500 → fb (283 + w) (hG mean sz an w)
  | 0, _ => fb_mono (by omega) (mn_fb mean)
  | w + 1, h => fb_add (E := 283 + w) (by omega) (hG_fb mean sz an w (by omega)) (fb_mono (by omega) (wv_fb _ _))
def hgtX (I : MI) (n : Nat) (s t k : Int32) : UInt64 :=
  if ifF (I 16) (I 17) (I 18) s t k n = -1 then 0 else
    hG (I 19 (ifF (I 16) (I 17) (I 18) s t k n).toNatClampNeg)
      (fun w => I 21 (24 * (ifF (I 16) (I 17) (I 18) s t k n).toNatClampNeg + 3 * w))
      (fun w => angX (I 21 (24 * (ifF (I 16) (I 17) (I 18) s t k n).toNatClampNeg + 3 * w + 1)) t (I 21 (24 * (ifF (I 16) (I 17) (I 18) s t k n).toNatClampNeg + 3 * w + 2)))
      (I 20 (ifF (I 16) (I 17) (I 18) s t k n).toNatClampNeg).toNatClampNeg
def hgtM (I : MI) (n : Nat) (s t k : Int32) : UInt64 :=
    hG (I 78 (ifF (I 75) (I 76) (I 77) s t k n).toNatClampNeg)
      (fun w => I 80 (8 * (ifF (I 75) (I 76) (I 77) s t k n).toNatClampNeg + w))
      (fun w => angM (I 81 (8 * (ifF (I 75) (I 76) (I 77) s t k n).toNatClampNeg + w)) t (I 82 (8 * (ifF (I 75) (I 76) (I 77) s t k n).toNatClampNeg + w)))
      (I 79 (ifF (I 75) (I 76) (I 77) s t k n).toNatClampNeg).toNatClampNeg
theorem nI_neg1 {j : Nat} (h : j < 2 ^ 31) : ¬ nI j = -1 := by
  intro q
  have a := nI_toInt h
  rw [q] at a
  have : ((-1 : Int32)).toInt = -1 := by decide
  omega
/-- a * i + b * j as the machine reckons it -/
theorem nI_lin (a i b j : Nat) : nI i * nI a + nI j * nI b = nI (a * i + b * j) := by
  rw [pk_mul, pk_mul, nI_add]
  congr 1
  rw [Nat.mul_comm i a, Nat.mul_comm j b]
theorem nI_lin' (a i j : Nat) : nI a * nI i + nI j = nI (a * i + j) := by
  rw [pk_mul, nI_add]
section S23
variable (g : Gp) (d : Nat) (I : MI) (D : MD)
set_option maxHeartbeats 1000000 in
theorem c_X_heightAt (s t k : Int32) (n : Nat) (hn : n ≤ 60) (hI : I 2 9 = nI n) (hw : ∀ i, i < n → ∃ w, w ≤ 8 ∧ I 20 i = nI w) : Con g SHc (d + 1) 19 [.ref 2, .int s, .int t, .int k] I D (EqP (some (.double (hgtX I n s t k))) I D) := by
  refine Con.mk (LV := v_Surveys_heightAt) k_Surveys_heightAt (Nat.le_of_ble_eq_true rfl) (fun K hK => ?_)
  refine hK (0, 34, o_Surveys_heightAt_0) (List.mem_of_getElem? (i := 0) rfl) _ _ _ _ ?_
  refine call_eq (c_X_inForce g d I D s t k n hn hI) ?_
  rcases ifF_in (I 16) (I 17) (I 18) s t k n with h | ⟨j, hj, h⟩
  · rw [h]
    refine And.intro (fun c => ?_) (fun c => ?_)
    · exact absurd rfl c
    · exact And.intro (by unfold hgtX; rw [if_pos h]) (And.intro rfl rfl)
  · have hj31 : j < 2 ^ 31 := by omega
    have hjc : (nI j).toNatClampNeg = j := nI_clamp hj31
    obtain ⟨w, hw8, hwe⟩ := hw j hj
    have e0 : hgtX I n s t k = hG (I 19 j) (fun w => I 21 (24 * j + 3 * w)) (fun w => angX (I 21 (24 * j + 3 * w + 1)) t (I 21 (24 * j + 3 * w + 2))) w := by
      unfold hgtX
      rw [h, if_neg (nI_neg1 hj31), hjc, hwe, nI_clamp (by omega)]
    rw [e0] at hK
    rw [h]
    have loop : ∀ r i, i + r = w → K 34 [(0, .ref 2), (2, .int t), (4, .int (nI j)), (5, .double (hG (I 19 j) (fun w => I 21 (24 * j + 3 * w)) (fun w => angX (I 21 (24 * j + 3 * w + 1)) t (I 21 (24 * j + 3 * w + 2))) i)), (7, .int (nI i))] [] I D := by
      intro r
      induction r with
      | zero =>
        intro i hi
        have hi : i = w := by omega
        subst hi
        refine hK (34, 120, o_Surveys_heightAt_1) (List.mem_of_getElem? (i := 1) rfl) _ _ _ _ ?_
        refine And.intro (inn_nI (by omega) (by decide)) ?_
        refine And.intro (fun c => ?_) (fun c => ?_)
        · exact And.intro rfl (And.intro rfl rfl)
        · rw [hjc, hwe] at c
          exact absurd (nI_le (Nat.le_refl _) (by omega)) c
      | succ r ih =>
        intro i hi
        have go := ih (i + 1) (by omega)
        rw [nI_succ] at go
        refine hK (34, 120, o_Surveys_heightAt_1) (List.mem_of_getElem? (i := 1) rfl) _ _ _ _ ?_
        refine And.intro (inn_nI (by omega) (by decide)) ?_
        refine And.intro (fun c => ?_) (fun c => ?_)
        · rw [hjc, hwe] at c
          exact absurd c (nI_ge (by omega) (by omega))
        have e1 : nI j * 24 + nI i * 3 = nI (24 * j + 3 * i) := nI_lin 24 j 3 i
        have e2 : nI j * 24 + nI i * 3 + 2 = nI (24 * j + 3 * i + 2) := by rw [e1]; exact nI_add _ 2
        have e3 : nI j * 24 + nI i * 3 + 1 = nI (24 * j + 3 * i + 1) := by rw [e1]; exact nI_add _ 1
        refine And.intro (by rw [e2]; exact inn_nI (by omega) (by decide)) ?_
        refine And.intro (by rw [e3]; exact inn_nI (by omega) (by decide)) ?_
        refine And.intro (by decide) ?_
        refine And.intro (by rw [e1]; exact inn_nI (by omega) (by decide)) ?_
        refine And.intro (fb_n (sz_fb _)) ?_
        refine call_eq (c_X_cosine g d I D _) ?_
        refine And.intro (fb_n (wv_fb _ _)) ?_
        rw [e2, e3, e1, nI_clamp (by omega), nI_clamp (by omega), nI_clamp (by omega)]
        refine And.intro (fb_n (fb_add (E := 283 + i) (by omega) (hG_fb _ _ _ _ (by omega)) (fb_mono (by omega) (wv_fb _ _)))) ?_
        exact go
    refine And.intro (fun c => ?_) (fun c => ?_)
    · refine And.intro (inn_nI (by omega) (by decide)) ?_
      refine And.intro (fb_n (mn_fb _)) ?_
      rw [hjc]
      exact loop w 0 (by omega)
    · exact absurd c (nI_neg1 hj31)
set_option maxHeartbeats 1000000 in
/-- reference: 'level' becomes the HEIGHT, where there is one -/
theorem c_M_rises (s t k : Int32) (n : Nat) (hn : n ≤ 60) (hI : I 12 8 = nI n) (hw : ∀ i, i < n → ∃ w, w ≤ 8 ∧ I 79 i = nI w) : Con g SHc (d + 1) 162 [.ref 12, .int s, .int t, .int k] I D
    (EqP (some (.int (bI (!decide (ifF (I 75) (I 76) (I 77) s t k n = -1))))) I (if ifF (I 75) (I 76) (I 77) s t k n = -1 then D else up2 D 12 17 (hgtM I n s t k))) := by
  refine Con.mk (LV := v_M_rises) k_M_rises (Nat.le_of_ble_eq_true rfl) (fun K hK => ?_)
  refine hK (0, 38, o_M_rises_0) (List.mem_of_getElem? (i := 0) rfl) _ _ _ _ ?_
  refine call_eq (c_M_inForce g d I D s t k n hn hI) ?_
  rcases ifF_in (I 75) (I 76) (I 77) s t k n with h | ⟨j, hj, h⟩
  · rw [h]
    refine And.intro (fun c => ?_) (fun c => ?_)
    · exact absurd rfl c
    · exact And.intro (by decide) (And.intro rfl (And.intro rfl (by rw [if_pos rfl])))
  · have hj31 : j < 2 ^ 31 := by omega
    have hjc : (nI j).toNatClampNeg = j := nI_clamp hj31
    obtain ⟨w, hw8, hwe⟩ := hw j hj
    have e0 : hgtM I n s t k = hG (I 78 j) (fun w => I 80 (8 * j + w)) (fun w => angM (I 81 (8 * j + w)) t (I 82 (8 * j + w))) w := by
      unfold hgtM
      rw [h, hjc, hwe, nI_clamp (by omega)]
    rw [if_neg (by rw [h]; exact nI_neg1 hj31), show decide (ifF (I 75) (I 76) (I 77) s t k n = -1) = false from decide_eq_false (by rw [h]; exact nI_neg1 hj31), e0] at hK
    rw [h]
    have loop : ∀ r i, i + r = w → K 38 [(0, .ref 12), (2, .int t), (4, .int (nI j)), (5, .double (hG (I 78 j) (fun w => I 80 (8 * j + w)) (fun w => angM (I 81 (8 * j + w)) t (I 82 (8 * j + w))) i)), (7, .int (nI (8 * j + i)))] [] I D := by
      intro r
      induction r with
      | zero =>
        intro i hi
        have hi : i = w := by omega
        subst hi
        refine hK (38, 119, o_M_rises_1) (List.mem_of_getElem? (i := 1) rfl) _ _ _ _ ?_
        refine And.intro (inn_nI (by omega) (by decide)) ?_
        refine And.intro (fun c => ?_) (fun c => ?_)
        · exact And.intro (by decide) (And.intro (rfl) (And.intro rfl rfl))
        · rw [hjc, hwe] at c
          exact absurd (by rw [show (8 : Int32) = nI 8 from rfl, nI_lin']; exact nI_le (Nat.le_refl _) (by omega)) c
      | succ r ih =>
        intro i hi
        have go := ih (i + 1) (by omega)
        rw [← Nat.add_assoc, nI_succ] at go
        have hin : inn (nI (8 * j + i)) 480 := inn_nI (by omega) (by decide)
        have hcl : (nI (8 * j + i)).toNatClampNeg = 8 * j + i := nI_clamp (by omega)
        refine hK (38, 119, o_M_rises_1) (List.mem_of_getElem? (i := 1) rfl) _ _ _ _ ?_
        refine And.intro (inn_nI (by omega) (by decide)) ?_
        refine And.intro (fun c => ?_) (fun c => ?_)
        · rw [hjc, hwe, show (8 : Int32) = nI 8 from rfl, nI_lin'] at c
          exact absurd c (nI_ge (by omega) (by omega))
        refine And.intro (hin) ?_
        refine And.intro (by decide) ?_
        refine And.intro (hin) ?_
        refine And.intro (fb_n (sz_fb _)) ?_
        refine And.intro (hin) ?_
        refine call_eq (c_M_cosine g d I D _) ?_
        refine And.intro (fb_n (wv_fb _ _)) ?_
        rw [hcl]
        refine And.intro (fb_n (fb_add (E := 283 + i) (by omega) (hG_fb _ _ _ _ (by omega)) (fb_mono (by omega) (wv_fb _ _)))) ?_
        exact go
    refine And.intro (fun c => ?_) (fun c => ?_)
    · refine And.intro (inn_nI (by omega) (by decide)) ?_
      refine And.intro (fb_n (mn_fb _)) ?_
      rw [hjc]
      have go := loop w 0 (by omega)
      rw [show nI (8 * j + 0) = 8 * nI j by rw [show (8 : Int32) = nI 8 from rfl, pk_mul]; rfl] at go
      exact go
    · exact absurd c (nI_neg1 hj31)
end S23
