/-! tide (reference) -/
theorem cmpV_l {a b : Int32} (ha : noF a = false) (hb : noF b = false) : Op.cmpValue (FP.fcmp a.toUInt32 b.toUInt32) .l < 0 ↔ ordI a < ordI b := by
  refine Iff.trans ?_ i32_lt.symm
  rw [fcmp_ord ha hb]
  rcases Int.lt_trichotomy (ordI a).toInt (ordI b).toInt with h | h | h
  · rw [Int.compare_eq_lt.mpr h]
    exact ⟨fun _ => h, fun _ => by decide⟩
  · rw [Int.compare_eq_eq.mpr h]
    exact ⟨fun z => absurd z (by decide), fun z => by omega⟩
  · rw [Int.compare_eq_gt.mpr h]
    exact ⟨fun z => absurd z (by decide), fun z => by omega⟩
theorem cmpV_g {a b : Int32} (ha : noF a = false) (hb : noF b = false) : Op.cmpValue (FP.fcmp a.toUInt32 b.toUInt32) .g ≤ 0 ↔ ordI a ≤ ordI b := by
  refine Iff.trans ?_ i32_le.symm
  rw [fcmp_ord ha hb]
  rcases Int.lt_trichotomy (ordI a).toInt (ordI b).toInt with h | h | h
  · rw [Int.compare_eq_lt.mpr h]
    exact ⟨fun _ => by omega, fun _ => by decide⟩
  · rw [Int.compare_eq_eq.mpr h]
    exact ⟨fun _ => by omega, fun _ => by decide⟩
  · rw [Int.compare_eq_gt.mpr h]
    exact ⟨fun z => absurd z (by decide), fun z => by omega⟩
/-- whether the FLOAT of the bits is within -20 and 20, as the machine asks it -/
def inR (r : UInt32) : Bool := !decide (Op.cmpValue (FP.fcmp r 3248488448) .l < 0) && decide (Op.cmpValue (FP.fcmp r 1101004800) .g ≤ 0)
theorem inR_nan {r : UInt32} (h : isNaN32 r = true) : inR r = false := by
  have e : FP.Core.val32 r = .nan := by
    have h2 : noF r.toInt32 = true := by
      unfold noF
      rw [decide_eq_true_eq, i32_lt, and_abs]
      rw [isNaN32_iff] at h
      rw [show r.toInt32.toUInt32 = r from rfl]
      have h3 := Nat.and_two_pow_sub_one_eq_mod r.toNat 31
      rw [show ((2139095040 : Int32)).toInt = 2139095040 by decide]
      have h4 : r.toNat &&& 2147483647 = r.toNat % 2 ^ 31 := h3
      rw [h4] at h
      omega
    exact noF_nan h2
  unfold inR
  rw [fcmp_no (Or.inl e), fcmp_no (Or.inl e)]
  decide
theorem inR_v (v : Int32) : inR v.toUInt32 = decide (v &&& 2147483647 ≤ 1101004800) := by
  cases hv : noF v with
  | true =>
    have h : ¬ v &&& 2147483647 ≤ 1101004800 := by
      unfold noF at hv
      rw [decide_eq_true_eq, i32_lt, show ((2139095040 : Int32)).toInt = 2139095040 by decide] at hv
      rw [i32_le, show ((1101004800 : Int32)).toInt = 1101004800 by decide]
      omega
    rw [decide_eq_false h]
    unfold inR
    rw [fcmp_no (Or.inl (noF_nan hv)), fcmp_no (Or.inl (noF_nan hv))]
    decide
  | false =>
    have e1 : (3248488448 : UInt32) = ((-1046478848 : Int32)).toUInt32 := by decide
    have e2 : (1101004800 : UInt32) = ((1101004800 : Int32)).toUInt32 := by decide
    have h1 := cmpV_l (b := -1046478848) hv (by decide)
    have h2 := cmpV_g (b := 1101004800) hv (by decide)
    rw [← e1] at h1
    rw [← e2] at h2
    have ho : (v &&& 2147483647 ≤ 1101004800) ↔ ¬ ordI v < ordI (-1046478848) ∧ ordI v ≤ ordI 1101004800 := by
      have a1 := u32_of v
      have a2 := and_abs v
      have a3 : v.toUInt32.toNat < 2 ^ 32 := v.toUInt32.toNat_lt
      have a4 := Int32.le_toInt v
      have a5 := Int32.toInt_lt v
      have k1 := ord_key v
      rw [i32_le, i32_lt, i32_le, show ((1101004800 : Int32)).toInt = 1101004800 by decide, show (ordI (-1046478848)).toInt = -1101004800 by decide, show (ordI 1101004800).toInt = 1101004800 by decide]
      have e0 : ((0 : Int32)).toInt = 0 := by decide
      unfold ordI
      by_cases h : 0 ≤ v
      · rw [if_pos h]
        rw [i32_le, e0] at h
        rw [if_pos h] at a1
        omega
      · rw [if_neg h]
        rw [i32_le, e0] at h
        rw [if_neg h] at a1
        rw [Int32.toInt_neg, a2]
        rw [Int.bmod_eq_of_le (by omega) (by omega)]
        omega
    unfold inR
    rw [Bool.eq_iff_iff, Bool.and_eq_true, Bool.not_eq_true', decide_eq_false_iff_not, decide_eq_true_eq, decide_eq_true_eq, h1, h2, ho]
section S84
variable (g : Gp) (d : Nat) (I : MI) (D : MD)
def tdM (I : MI) (s h v : Int32) (b : Bool) : MI := if (wi s 0 11 && wi h (-6) 6 && b) = true then up2 I 101 (13 * s.toNatClampNeg + (h + 6).toNatClampNeg) v else I
theorem td_tail (s h v : Int32) (r : UInt32) (K : Kt) : wp SHc none (retP (EqP (some (.int (if (wi s 0 11 && wi h (-6) 6 && inR r) = true then 1 else -2))) (tdM I s h v (inR r)) D)) (CaD g SHc (d + 3)) v_M_tide K 62 (o_M_tide_0.drop 2) none [(0, .ref 12), (1, .int s), (2, .int h), (3, .int v)] [.float r] I D := by
  unfold tdM
  refine call_eq (c_M_isStation g (d + 1) I D s) ?_
  refine And.intro (fun c1 => ?_) (fun c1 => ?_)
  · rw [bI_0.mp c1]
    exact And.intro rfl (And.intro rfl rfl)
  have h1 := bI_n0.mp c1
  rw [h1]
  refine call_eq (c_M_in g (d + 2) I D h (-6) 6) ?_
  refine And.intro (fun c2 => ?_) (fun c2 => ?_)
  · rw [bI_0.mp c2]
    exact And.intro rfl (And.intro rfl rfl)
  have h2 := bI_n0.mp c2
  rw [h2]
  refine And.intro (fun c3 => ?_) (fun c3 => ?_)
  · have e : inR r = false := by
      unfold inR
      rw [decide_eq_true c3, Bool.not_true, Bool.false_and]
    rw [e]
    exact And.intro rfl (And.intro rfl rfl)
  refine And.intro (fun c4 => ?_) (fun c4 => ?_)
  · have e : inR r = true := by
      unfold inR
      rw [decide_eq_false c3, decide_eq_true c4]
      rfl
    rw [e]
    obtain ⟨s, hs, rfl⟩ := wi_nI (m := 11) (by decide) h1
    obtain ⟨j, hj, hje⟩ := wi_6 h2
    have e : (13 : Int32) * nI s + h + 6 = nI (13 * s + j) := by rw [Int32.add_assoc, hje, show (13 : Int32) = nI 13 from rfl, pk_mul, nI_add]
    refine And.intro (by rw [e]; exact inn_nI (by omega) (by decide)) ?_
    rw [e, nI_clamp (show 13 * s + j < 2 ^ 31 by omega), hje, nI_clamp (show j < 2 ^ 31 by omega), nI_clamp (show s < 2 ^ 31 by omega)]
    exact And.intro rfl (And.intro rfl rfl)
  · have e : inR r = false := by
      unfold inR
      rw [decide_eq_false c4, Bool.and_false]
    rw [e]
    exact And.intro rfl (And.intro rfl rfl)
theorem c_M_tide (s h v : Int32) (hv : vn_sni2f v = false) : Con g SHc (d + 3) 196 [.ref 12, .int s, .int h, .int v] I D (EqP (some (.int (if (wi s 0 11 && wi h (-6) 6 && decide (v &&& 2147483647 ≤ 1101004800)) = true then 1 else -2))) (tdM I s h v (decide (v &&& 2147483647 ≤ 1101004800))) D) := by
  rw [← inR_v]
  refine Con.mk (LV := v_M_tide) k_M_tide (Nat.le_of_ble_eq_true rfl) (fun K hK => ?_)
  refine hK (0, 62, o_M_tide_0) (List.mem_of_getElem? (i := 0) rfl) _ _ _ _ ?_
  refine And.intro hv ?_
  exact td_tail g d I D s h v v.toUInt32 K
/-- a contract of a method that may draw -/
def ConD (g : Gp) (SH : List Sh) (d mid : Nat) (As : List Value) (I : MI) (D : MD) (Post : Po) : Prop :=
  ∀ q : Me, nth MT mid = some q → MetD lw_cs g.1 q.1 (Cond.code q.1 q.2.1 q.2.2.1 q.2.2.2.1 :: gt) (rmd d) (PcM g SH As I D) (QcM g SH Post) 0 0 g.2.2.2.2
set_option maxHeartbeats 1000000 in
theorem c_M_tideS (s h v : Int32) (hv : vn_sni2f v = true) : ConD g SHc (d + 3) 196 [.ref 12, .int s, .int h, .int v] I D (EqP (some (.int (-2))) I D) := by
  obtain ⟨l, ad, dA, G, A⟩ := g
  intro q hq
  obtain ⟨hPl, q', hq', hown0, hnl, hG⟩ := k_M_tide
  cases hq.symm.trans hq'
  refine MetD.ofW (cc := q.2.1) (maxL := q.2.2.1) (ret := q.2.2.2.1) (by rw [← hown0]; decide) rfl ?_
  intro p e st m args below meth c s₁ B hml hpc hd0
  obtain ⟨rfl, hAd, hK, hN, hP⟩ := hpc
  have hts := atoms_spec (ws := Cond.code q.1 q.2.1 q.2.2.1 q.2.2.2.1 :: gt) B.pre
  have htg : ∀ w ∈ gt, w.before _ st = true := fun w hw => hts w (List.mem_cons_of_mem _ hw)
  have hown : st.vm.findClass P_M.1 = some m.cls := by rw [hown0]; exact findClass_of_methodNamed B.named
  have hr := B.returns
  have hlocks := B.notSynchronized
  have Bd0 : ∀ d1, BdX p (rmd (d + 3)) (st.setDrawn d1) m ([Value.ref 12, .int s, .int h, .int v].map (cv ad)).toArray c 0 0 ad dA G A SHc st.heap q.2.2.1 q.2.1 P_M.1 (d + 3) none := fun d1 =>
    ⟨B.exec, B.bytes, hml, hown, dr_words htg d1, va_K.moved (u := st) (U := st.setDrawn d1) (Vm.Alike.refl st.vm) hK, wld_D hAd, (fun z hz => nomatch hz), ⟨Nat.le_refl _, Nat.le_refl _, Nat.le_refl _, Nat.le_refl _⟩, NwOk.same (s := st) rfl hN⟩
  have hzok : okS P_M q.2.2.2.1 q.2.2.1 q.2.1 62 o_M_tide_0 = true := by
    have := List.all_eq_true.mp hG (0, 62, o_M_tide_0) (List.mem_of_getElem? (i := 0) rfl)
    simp only [Bool.and_eq_true] at this
    exact this.1
  have z1 : okS P_M q.2.2.2.1 q.2.2.1 q.2.1 62 ((0, .iload_n 3, 3, 0, .null) :: (1, .invokestatic 315, 0, 0, .ref 1) :: o_M_tide_0.drop 2) = true := hzok
  unfold okS at z1
  simp only [Bool.and_eq_true, decide_eq_true_eq] at z1
  obtain ⟨⟨d0e, -⟩, z2⟩ := z1
  unfold okS at z2
  simp only [Bool.and_eq_true, decide_eq_true_eq] at z2
  obtain ⟨⟨d1e, o1⟩, z3⟩ := z2
  have hlk : Cond.methodLink P_M.1 315 (yN 1) ∈ gt := by
    simp only [okI, Bool.and_eq_true] at o1
    exact okn_e hPl o1.2
  have hent : AtM p l e (rmd (d + 3)) (st.setDrawn st.drawn) m ([Value.ref 12, .int s, .int h, .int v].map (cv ad)).toArray below meth c 0 0 (MQD lw_cs below (QcM (l, ad, dA, G, A) SHc (EqP (some (.int (-2))) I D)) ([Value.ref 12, .int s, .int h, .int v].map (cv ad)).toArray st 0 0 A) ad dA G A SHc st.heap q.2.2.1 0 (lv_args 0 [Value.ref 12, .int s, .int h, .int v]) [] I D := by
    refine x_iload_n (i := 3) (a := 3) (k := fun lv st I' D' => lv = lv_args 0 [Value.ref 12, .int s, .int h, .int v] ∧ st = [.int v] ∧ I = I' ∧ D = D') (Bd0 _) d0e rfl ⟨rfl, rfl, rfl, rfl⟩ ?_
    rintro lv st9 I' D' ⟨rfl, rfl, rfl, rfl⟩
    intro H locs ls hl hP hS
    refine i2fS (b := v) hd0 B.exec B.bytes (by rw [hml, hl.1]) hown (htg _ hlk) (htg _ nat_ok.1.1) (htg _ nat_ok.1.2.1) (htg _ nat_ok.1.2.2) hv (by show 1 ≤ d + 3 + 1; omega) (by show 0 + 15 ≤ 64 * (d + 3 + 1); omega) d1e (fun r d1 hnan hd1 => ?_)
    have hw := td_tail (l, ad, dA, G, A) d I D s h v r (fun _ _ _ _ _ => False)
    rw [inR_nan hnan, Bool.and_false] at hw
    have hw2 : wp SHc none (retP (EqP (some (.int (-2))) I D)) (CaD (l, ad, dA, G, A) SHc (d + 3)) v_M_tide (fun _ _ _ _ _ => False) 62 (o_M_tide_0.drop 2) none [(0, .ref 12), (1, .int s), (2, .int h), (3, .int v)] [.float r] I D := by
      have e : tdM I s h v false = I := by
        unfold tdM
        rw [Bool.and_false]
        rfl
      rw [e] at hw
      exact hw
    refine (wp_sound (rt := q.2.2.2.1) (Q := MQD lw_cs below (QcM (l, ad, dA, G, A) SHc (EqP (some (.int (-2))) I D)) ([Value.ref 12, .int s, .int h, .int v].map (cv ad)).toArray st 0 0 A) hPl (Bd0 d1) hAd (fun t lv st I D h => h.elim) ?_ (o_M_tide_0.drop 2) z3 _ _ I D).1 hw2 H locs ls hl hP hS
    intro pc i a lv st2 I2 D2 hi hdec hok hret H locs ls hl hP hS
    have fin : ∀ (r : Option Value), EqP (some (.int (-2))) I D r I2 D2 → ∀ t : State, t.heap = H → (st.setDrawn d1).WarmedH t.vm → QcM (l, ad, dA, G, A) SHc (EqP (some (.int (-2))) I D) ([Value.ref 12, .int s, .int h, .int v].map (cv ad)).toArray (st.setDrawn d1) (.returned (r.map (cv ad))) t :=
      fun r hp t ht _ => ⟨⟨r, I2, D2, rfl, hp, by rw [ht]; exact hP⟩, hS.F ht⟩
    refine W.endD hd1 ?_
    unfold retP at hret
    split at hret
    next x =>
      simp only [okI, Bool.and_eq_true] at hok
      split at hret
      next =>
        have hrt : meth.sig.returnType = some .boolean := by rw [hr]; exact of_decide_eq_true hok.2
        refine W.zret (ty := .boolean) B.exec B.bytes hrt ?_ (fin _ hret.2) hS.2.2 hdec
        rcases hret.1 with rfl | rfl <;> rfl
      next hne =>
        have hrt : meth.sig.returnType = some .int := by
          rw [hr]
          have h5 := hok.2
          split at h5
          next => exact absurd rfl hne
          next => exact of_decide_eq_true h5
        exact W.iret B.exec B.bytes hrt (fin _ hret) hS.2.2 hdec
    next x =>
      simp only [okI, Bool.and_eq_true] at hok
      have hrt : meth.sig.returnType = some .long := by rw [hr]; exact of_decide_eq_true hok.2
      exact W.lret B.exec B.bytes hrt (fin _ hret) hS.2.2 hdec
    next x =>
      simp only [okI, Bool.and_eq_true] at hok
      have hrt : meth.sig.returnType = some .double := by rw [hr]; exact of_decide_eq_true hok.2
      exact W.dret B.exec B.bytes hrt (fin _ hret) hS.2.2 hdec
    next =>
      simp only [okI, Bool.and_eq_true] at hok
      have hrt : meth.sig.returnType = none := by rw [hr]; exact of_decide_eq_true hok.2
      exact W.vret B.exec B.bytes hrt (fin _ hret) hS.2.2 hdec
    next => exact hret.elim
  have hl := lv_entry ([Value.ref 12, .int s, .int h, .int v].map (cv ad)) (n := q.2.2.1) (by rw [slen_e, slen_map, hnl]; exact Nat.le_of_ble_eq_true rfl)
  rw [lg_entry_eq]
  exact hent st.heap [] _ (by rw [lv_args_map]; exact hl) hP va_S.rf
end S84
