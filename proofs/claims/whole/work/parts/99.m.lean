/-! windows -/
def VI (W : Wn) (V : Vn) (t : Nat) : Prop := W.2.2.2.1 = V.2.1.2.2.2.1 ∧ W.2.2.2.2.1 = V.2.1.2.2.2.2.1 ∧ V.2.1.1 ≤ 20 ∧ (∀ i, i < V.2.1.1 → W.2.1 i = V.2.1.2.1 i ∧ W.2.2.1 i = V.2.1.2.2.1 i) ∧ ((W.2.2.2.2.2 = true ∧ ¬ V.1 = -1 ∧ W.1 = V.2.1.1 + 1 ∧ V.2.1.1 < 20 ∧ W.2.1 V.2.1.1 = V.1 ∧ W.2.2.1 V.2.1.1 = nI t - 1) ∨ (W.2.2.2.2.2 = false ∧ W.1 = V.2.1.1 ∧ (V.1 = -1 ∨ V.2.1.1 = 20)))
theorem nI_pr (t : Nat) : nI (t + 1) - 1 = nI t := by
  rw [← nI_1]
  exact Int32.add_sub_cancel _ _
theorem vi_step {W : Wn} {V : Vn} {t : Nat} (ht : t < 2 ^ 31) (h : VI W V t) (a : Int32) : VI (wkF W (nI t) a) (vkF V (nI t) a) (t + 1) := by
  obtain ⟨wz, wf, wl, ww, wo, op⟩ := W
  obtain ⟨vt, ⟨vz, vf, vl, vw, vo, vop⟩, F⟩ := V
  obtain ⟨h1, h2, h3, h4, h5⟩ := h
  have h1 : ww = vw := h1
  have h2 : wo = vo := h2
  have h3 : vz ≤ 20 := h3
  have h4 : ∀ i, i < vz → wf i = vf i ∧ wl i = vl i := h4
  have h5 : (op = true ∧ ¬ vt = -1 ∧ wz = vz + 1 ∧ vz < 20 ∧ wf vz = vt ∧ wl vz = nI t - 1) ∨ (op = false ∧ wz = vz ∧ (vt = -1 ∨ vz = 20)) := h5
  by_cases ca : a = 1
  · have eV : vkF (vt, (vz, vf, vl, vw, vo, vop), F) (nI t) a = (if vt = -1 then nI t else vt, (vz, vf, vl, vw, vo, vop), F) := if_pos ca
    rw [eV]
    rcases h5 with ⟨o1, o2, o3, o4, o5, o6⟩ | ⟨o1, o2, o3⟩
    · have eW : wkF (wz, wf, wl, ww, wo, op) (nI t) a = (wz, wf, up1 wl (wz - 1) (nI t), ww, wo, true) := by
        unfold wkF
        rw [if_pos ca, if_pos o1]
      rw [eW, if_neg o2]
      have e : wz - 1 = vz := by omega
      refine ⟨h1, h2, h3, fun i hi => ⟨(h4 i hi).1, ?_⟩, Or.inl ⟨rfl, o2, o3, o4, o5, ?_⟩⟩
      · show up1 wl (wz - 1) (nI t) i = vl i
        unfold up1
        rw [if_neg (show ¬ i = wz - 1 by have hi : i < vz := hi; omega)]
        exact (h4 i hi).2
      · show up1 wl (wz - 1) (nI t) vz = nI (t + 1) - 1
        unfold up1
        rw [if_pos e.symm, nI_pr]
    · subst o2
      by_cases c2 : wz < 20
      · have eW : wkF (wz, wf, wl, ww, wo, op) (nI t) a = (wz + 1, up1 wf wz (nI t), up1 wl wz (nI t), ww, wo, true) := by
          unfold wkF
          rw [if_pos ca, if_neg (show ¬ op = true by rw [o1]; decide), if_pos c2]
        have o3 : vt = -1 := o3.resolve_right (by omega)
        rw [eW, if_pos o3]
        refine ⟨h1, h2, h3, fun i hi => ?_, Or.inl ⟨rfl, nI_neg1 (by omega), rfl, c2, ?_, ?_⟩⟩
        · have hi : i < wz := hi
          show up1 wf wz (nI t) i = vf i ∧ up1 wl wz (nI t) i = vl i
          unfold up1
          rw [if_neg (by omega), if_neg (by omega)]
          exact h4 i hi
        · show up1 wf wz (nI t) wz = nI t
          unfold up1
          rw [if_pos rfl]
        · show up1 wl wz (nI t) wz = nI (t + 1) - 1
          unfold up1
          rw [if_pos rfl, nI_pr]
      · have eW : wkF (wz, wf, wl, ww, wo, op) (nI t) a = (wz, wf, wl, ww, wo, op) := by
          unfold wkF
          rw [if_pos ca, if_neg (show ¬ op = true by rw [o1]; decide), if_neg c2]
        rw [eW]
        exact ⟨h1, h2, h3, h4, Or.inr ⟨o1, rfl, Or.inr (show wz = 20 by omega)⟩⟩
  · have eW : wkF (wz, wf, wl, ww, wo, op) (nI t) a = (wz, wf, wl, (if a < -10 then ww + 1 else ww), (if a < -10 then -10 - a else wo), false) := by
      unfold wkF
      rw [if_neg ca]
      by_cases cb : a < -10
      · rw [if_pos cb, if_pos cb, if_pos cb]
      · rw [if_neg cb, if_neg cb, if_neg cb]
    rw [eW]
    rcases h5 with ⟨o1, o2, o3, o4, o5, o6⟩ | ⟨o1, o2, o3⟩
    · have eV : vkF (vt, (vz, vf, vl, vw, vo, vop), F) (nI t) a = (-1, (vz + 1, up1 vf vz vt, up1 vl vz (nI t - 1), (if a < -10 then vw + 1 else vw), (if a < -10 then -10 - a else vo), false), telF a F) := by
        unfold vkF
        rw [if_neg ca]
        exact if_pos ⟨o2, o4⟩
      rw [eV]
      refine ⟨by show (if a < -10 then ww + 1 else ww) = (if a < -10 then vw + 1 else vw); rw [h1], by show (if a < -10 then -10 - a else wo) = (if a < -10 then -10 - a else vo); rw [h2], o4, fun i hi => ?_, Or.inr ⟨rfl, o3, Or.inl rfl⟩⟩
      have hi : i < vz + 1 := hi
      show wf i = up1 vf vz vt i ∧ wl i = up1 vl vz (nI t - 1) i
      unfold up1
      by_cases e : i = vz
      · rw [if_pos e, if_pos e, e]
        exact ⟨o5, o6⟩
      · rw [if_neg e, if_neg e]
        exact h4 i (by omega)
    · have eV : vkF (vt, (vz, vf, vl, vw, vo, vop), F) (nI t) a = (-1, (vz, vf, vl, (if a < -10 then vw + 1 else vw), (if a < -10 then -10 - a else vo), false), telF a F) := by
        unfold vkF
        rw [if_neg ca]
        refine if_neg (fun z => ?_)
        have z1 : ¬ vt = -1 := z.1
        have z2 : vz < 20 := z.2
        rcases o3 with y | y
        · exact z1 y
        · omega
      rw [eV]
      exact ⟨by show (if a < -10 then ww + 1 else ww) = (if a < -10 then vw + 1 else vw); rw [h1], by show (if a < -10 then -10 - a else wo) = (if a < -10 then -10 - a else vo); rw [h2], h3, h4, Or.inr ⟨rfl, o2, Or.inl rfl⟩⟩
theorem vk_fi (V : Vn) (t a : Int32) : (vkF V t a).2.2 = telF a V.2.2 := by
  unfold vkF
  by_cases ca : a = 1
  · rw [if_pos ca]
    show V.2.2 = telF a V.2.2
    unfold telF
    rw [if_neg (show ¬ a < -10 by rw [ca]; decide)]
  · rw [if_neg ca]
    split <;> rfl
theorem vi_all {mn : Nat → Int32} {a0 : Nat} {W0 : Wn} {V0 : Vn} (h : VI W0 V0 a0) : ∀ k, a0 + k < 2 ^ 31 → VI (wfF mn a0 W0 V0.2.2 k).1 (vfF mn a0 V0 k) (a0 + k) ∧ (wfF mn a0 W0 V0.2.2 k).2 = (vfF mn a0 V0 k).2.2
  | 0, _ => ⟨h, rfl⟩
  | k + 1, hk => by
    have ih := vi_all (mn := mn) h k (by omega)
    refine ⟨vi_step (by omega) ih.1 (mn k), ?_⟩
    show telF (mn k) (wfF mn a0 W0 V0.2.2 k).2 = (vkF (vfF mn a0 V0 k) (nI (a0 + k)) (mn k)).2.2
    rw [vk_fi, ih.2]
theorem vi_end {W : Wn} {V : Vn} {t : Nat} (ht : t < 2 ^ 31) (h : VI W V t) : W.1 = (vkF V (nI t) 0).2.1.1 ∧ (vkF V (nI t) 0).2.1.1 ≤ 20 ∧ W.2.2.2.1 = (vkF V (nI t) 0).2.1.2.2.2.1 ∧ W.2.2.2.2.1 = (vkF V (nI t) 0).2.1.2.2.2.2.1 ∧ (∀ i, i < (vkF V (nI t) 0).2.1.1 → W.2.1 i = (vkF V (nI t) 0).2.1.2.1 i ∧ W.2.2.1 i = (vkF V (nI t) 0).2.1.2.2.1 i) := by
  have h9 := vi_step ht h 0
  have eW : wkF W (nI t) 0 = (W.1, W.2.1, W.2.2.1, W.2.2.2.1, W.2.2.2.2.1, false) := rfl
  rw [eW] at h9
  obtain ⟨h1, h2, h3, h4, h5⟩ := h9
  rcases h5 with ⟨z, -⟩ | ⟨-, z, -⟩
  · exact absurd (show false = true from z) (by decide)
  · exact ⟨z, h3, h1, h2, h4⟩
section SB1
variable (g : Gp) (I : MI) (D : MD)
theorem eqM_wn {I : MI} (W : Wn) (F : Fi) (T : Tr) : eqM (trX (wnX (fiX I F) W) T) I := ⟨rfl, rfl, rfl, rfl, rfl, rfl, rfl, rfl, rfl, rfl, rfl, rfl, rfl, rfl, rfl, rfl, rfl, rfl, rfl, rfl, rfl, rfl, rfl, rfl, rfl, rfl, rfl, rfl, rfl, rfl, rfl, rfl, rfl, rfl, rfl, rfl, rfl, rfl, rfl, rfl⟩
theorem wdM_c {J I : MI} (e : eqM J I) (e1 : J 121 = I 121) (e2 : J 122 = I 122) (e3 : J 12 2 = I 12 2) (e4 : J 12 1 = I 12 1) (n m tk fd b : Nat) (s rt a k : Int32) : wdM J n m tk fd b s rt a k = wdM I n m tk fd b s rt a k := by
  have e5 : (fun k => minM J n m tk fd b rt.toNatClampNeg s (nI (a.toNatClampNeg + k))) = (fun k => minM I n m tk fd b rt.toNatClampNeg s (nI (a.toNatClampNeg + k))) := by
    funext k
    rw [minM_c e]
  show vkF (vfF (fun k => minM J n m tk fd b rt.toNatClampNeg s (nI (a.toNatClampNeg + k))) _ (-1, (0, J 121, J 122, 0, 0, false), (J 12 2, J 12 1)) _) _ 0 = vkF (vfF (fun k => minM I n m tk fd b rt.toNatClampNeg s (nI (a.toNatClampNeg + k))) _ (-1, (0, I 121, I 122, 0, 0, false), (I 12 2, I 12 1)) _) _ 0
  rw [e1, e2, e3, e4, e5]
theorem wd_link {I : MI} {D : MD} {n m tk fd h q sp ms np : Nat} (H : RelP I D n m tk fd h q sp ms np) (s rt : Int32) {a k : Nat} (hk : a + k ≤ 43200) : (wdX I n m tk fd (h + q) s rt (nI a) (nI k)).2 = (wdM I n m tk fd (h + q) s rt (nI a) (nI k)).2.2 ∧ (wdX I n m tk fd (h + q) s rt (nI a) (nI k)).1.1 = (wdM I n m tk fd (h + q) s rt (nI a) (nI k)).2.1.1 ∧ (wdM I n m tk fd (h + q) s rt (nI a) (nI k)).2.1.1 ≤ 20 ∧ (wdX I n m tk fd (h + q) s rt (nI a) (nI k)).1.2.2.2.1 = (wdM I n m tk fd (h + q) s rt (nI a) (nI k)).2.1.2.2.2.1 ∧ (wdX I n m tk fd (h + q) s rt (nI a) (nI k)).1.2.2.2.2.1 = (wdM I n m tk fd (h + q) s rt (nI a) (nI k)).2.1.2.2.2.2.1 ∧ (∀ i, i < (wdM I n m tk fd (h + q) s rt (nI a) (nI k)).2.1.1 → (wdX I n m tk fd (h + q) s rt (nI a) (nI k)).1.2.1 i = (wdM I n m tk fd (h + q) s rt (nI a) (nI k)).2.1.2.1 i ∧ (wdX I n m tk fd (h + q) s rt (nI a) (nI k)).1.2.2.1 i = (wdM I n m tk fd (h + q) s rt (nI a) (nI k)).2.1.2.2.1 i) := by
  have ac : (nI a).toNatClampNeg = a := nI_clamp (by omega)
  have kc : (nI k).toNatClampNeg = k := nI_clamp (by omega)
  obtain ⟨mn, hmn⟩ : ∃ mn, mn = (fun k => minM I n m tk fd (h + q) rt.toNatClampNeg s (nI (a + k))) := ⟨_, rfl⟩
  have eX : wdX I n m tk fd (h + q) s rt (nI a) (nI k) = wfF mn a (0, I 60, I 61, 0, 0, false) (I 12 2, I 12 1) k := by
    show wfF (fun k => minX I n m tk fd (h + q) rt.toNatClampNeg s (nI ((nI a).toNatClampNeg + k)) (I 0 11)) (nI a).toNatClampNeg (0, I 60, I 61, 0, 0, false) (I 1 0, I 1 1) (nI k).toNatClampNeg = _
    have e5 : (fun k => minX I n m tk fd (h + q) rt.toNatClampNeg s (nI (a + k)) (I 0 11)) = mn := by
      rw [hmn]
      funext k
      rw [H.now.1, min_eq H]
    rw [ac, kc, e5, H.fin.1, H.fin.2]
  have eM : wdM I n m tk fd (h + q) s rt (nI a) (nI k) = vkF (vfF mn a (-1, (0, I 121, I 122, 0, 0, false), (I 12 2, I 12 1)) k) (nI (a + k)) 0 := by
    show vkF (vfF (fun k => minM I n m tk fd (h + q) rt.toNatClampNeg s (nI ((nI a).toNatClampNeg + k))) (nI a).toNatClampNeg (-1, (0, I 121, I 122, 0, 0, false), (I 12 2, I 12 1)) (nI k).toNatClampNeg) (nI ((nI a).toNatClampNeg + (nI k).toNatClampNeg)) 0 = _
    rw [ac, kc, hmn]
  rw [eX, eM]
  have L := vi_all (mn := mn) (a0 := a) (W0 := (0, I 60, I 61, 0, 0, false)) (V0 := (-1, (0, I 121, I 122, 0, 0, false), (I 12 2, I 12 1))) ⟨rfl, rfl, Nat.zero_le _, fun i hi => absurd hi (Nat.not_lt_zero _), Or.inr ⟨rfl, rfl, Or.inl rfl⟩⟩ k (by omega)
  refine ⟨?_, vi_end (by omega) L.1⟩
  rw [vk_fi]
  exact L.2
theorem rel_wn {I : MI} {D : MD} {n m tk fd h q sp ms np : Nat} (H : RelP I D n m tk fd h q sp ms np) (W V : Wn) (F : Fi) (T : Tr) (hT : T.1 ≤ 100) (a1 : W.1 = V.1) (a2 : V.1 ≤ 20) (a3 : W.2.2.2.1 = V.2.2.2.1) (a4 : W.2.2.2.2.1 = V.2.2.2.2.1) (a5 : ∀ i, i < V.1 → W.2.1 i = V.2.1 i ∧ W.2.2.1 i = V.2.2.1 i) : RelP (nfM (trX (wnX (fiX I F) W) T) V F T) D n m tk fd h q sp ms np :=
  ⟨H.now, ⟨rfl, rfl⟩, H.dra, H.sur, H.cnt, H.gau, H.sho, H.wat, H.shp, ⟨H.tra.1, rfl, T.1, hT, rfl, rfl⟩, H.fle, H.rou, ⟨a3, a4, V.1, a2, by show nI W.1 = nI V.1; rw [a1], rfl, a5⟩, H.pas⟩
theorem p_windows (hr : Rel I D) (s rt a k : Int32) : Pair g 119 234 [.int s, .int rt, .int a, .int k] I D := by
  obtain ⟨n, m, tk, fd, h, q, sp, ms, np, H⟩ := hr
  obtain ⟨hms, t1, t2, -, -, -, -, -, -, -, hP, hR9, -⟩ := id H.shp
  obtain ⟨wX, wM⟩ := WX_of H.wat
  have hX := fun sc sd => c_X_windows g 5 I D H.cnt.1 H.rou.2.2.2.2.1 wX hms t1 hP s rt a k sc sd
  have hM := fun J b1 b2 b3 b4 b5 sc sd => c_M_windows g 5 (n := n) (m := m) (tk := tk) (fd := fd) (b := h + q) (h := h) J D b1 b2 b3 hms b4 (fun j => (I 108 j).toNatClampNeg) b5 s rt a k sc sd
  rw [H.fin.1, bd_eq H.shp, H.tra.2.1] at hX
  have s1 : ∀ (x y : Bool) (a b c e : Int32), sel3 false x y a b c e = a := fun _ _ _ _ _ _ => rfl
  have s2 : ∀ (x y : Bool) (a b c e : MI), sel3 false x y a b c e = a := fun _ _ _ _ _ _ => rfl
  have s3 : ∀ (y : Bool) (a b c e : Int32), sel3 true true y a b c e = b := fun _ _ _ _ _ => rfl
  have s4 : ∀ (y : Bool) (a b c e : MI), sel3 true true y a b c e = b := fun _ _ _ _ _ => rfl
  have s5 : ∀ (a b c e : Int32), sel3 true false false a b c e = e := fun _ _ _ _ => rfl
  have s6 : ∀ (a b c e : MI), sel3 true false false a b c e = e := fun _ _ _ _ => rfl
  cases c1 : wdOk ms s rt a k with
  | false =>
    have hM := hM I H.cnt.2.1 H.rou.2.2.2.2.2.1 wM t2 hR9
    rw [c1, s1, s2] at hX hM
    exact Pair.sc hX hM rfl H
  | true =>
    cases c2 : decide (3000 ≤ I 12 2) with
    | true =>
      have hM := hM I H.cnt.2.1 H.rou.2.2.2.2.2.1 wM t2 hR9
      rw [c1, c2, s3, s4] at hX hM
      exact Pair.sc hX hM rfl H
    | false =>
      rw [c1, c2, s5, s6] at hX
      obtain ⟨-, r', a', k', -, rfl, rfl, -, -, -, hak⟩ := wdOk_e c1
      obtain ⟨T, hT⟩ : ∃ T, T = bsT (0, I 109) (bdM I s) (nI k').toNatClampNeg := ⟨_, rfl⟩
      have hT100 : T.1 ≤ 100 := by rw [hT]; exact bsT_le (Nat.zero_le _) _ _
      rw [← hT] at hX
      have key : ∀ J, eqM J I → (J 121 = I 121) → (J 122 = I 122) → (J 12 2 = I 12 2) → (J 12 1 = I 12 1) → (J 109 = I 109) → KM J n m tk fd (h + q) h → RM J → WM J → J 12 49 = nI ms → rkOk (J 103) (fun j => J 107 (2 * j)) (fun j => J 107 (2 * j + 1)) (fun j => (I 108 j).toNatClampNeg) ms → ∀ sc sd, Con g SHc 20 234 [.ref 12, .int s, .int rt, .int (nI a'), .int (nI k')] (ovX J sc) (ovD D sd) (Sc (some (.int (nI (wdM I n m tk fd (h + q) s rt (nI a') (nI k')).2.1.1))) (nfM J (wdM I n m tk fd (h + q) s rt (nI a') (nI k')).2.1 (wdM I n m tk fd (h + q) s rt (nI a') (nI k')).2.2 T) D) := by
        intro J e e1 e2 e3 e4 e5 b1 b2 b3 b4 b5 sc sd
        have h9 := hM J b1 b2 b3 b4 b5 sc sd
        rw [wdM_c e e1 e2 e3 e4, e3, e5, bdM_c e, c1, c2, s5, s6, ← hT] at h9
        exact h9
      have L := wd_link H s rt hak
      generalize wdM I n m tk fd (h + q) s rt (nI a') (nI k') = V at key L
      generalize wdX I n m tk fd (h + q) s rt (nI a') (nI k') = W at hX L
      obtain ⟨l1, l2, l3, l4, l5, l6⟩ := L
      rw [l1, l2] at hX
      have hM := key (trX (wnX (fiX I V.2.2) W.1) T) (eqM_wn _ _ _) rfl rfl rfl rfl rfl H.cnt.2.1 H.rou.2.2.2.2.2.1 wM t2 hR9
      exact Pair.sc hX hM rfl (rel_wn H W.1 V.2.1 V.2.2 T hT100 l2 l3 l4 l5 l6)
end SB1
