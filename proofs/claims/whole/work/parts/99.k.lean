/-! waters -/
theorem hvN_cong {p p' : Nat → Bool} : ∀ f lo top, lo ≤ top → (∀ m, lo ≤ m → m ≤ top → p m = p' m) → hvN p f lo top = hvN p' f lo top
  | 0, _, _, _, _ => rfl
  | f + 1, lo, top, h, e => by
    unfold hvN
    rw [e ((lo + top) / 2) (by omega) (by omega), hvN_cong f ((lo + top) / 2) top (by omega) (fun m h1 h2 => e m (by omega) h2), hvN_cong f lo ((lo + top) / 2) (by omega) (fun m h1 h2 => e m h1 (by omega))]
theorem wtS_cong {hh hh' : Nat → UInt64} {mv mv' : Nat → Bool → Int32} {hg hg' : Int32 → UInt64} {s : Nat} {W0 : Wt} : ∀ {i : Nat}, (∀ j, j ≤ i + 1 → hh j = hh' j) → (∀ j b, j < i → mv j b = mv' j b) → (∀ j b, j < i → hg (mv' j b) = hg' (mv' j b)) → wtS hh mv hg s W0 i = wtS hh' mv' hg' s W0 i
  | 0, _, _, _ => rfl
  | i + 1, h1, h2, h3 => by
    unfold wtS
    rw [wtS_cong (i := i) (fun j hj => h1 j (by omega)) (fun j b hj => h2 j b (by omega)) (fun j b hj => h3 j b (by omega)), h1 i (by omega), h1 (i + 1) (by omega), h1 (i + 2) (by omega), h2 i _ (by omega), h3 i _ (by omega)]
theorem wtS_all {Q : UInt64 → Prop} {hh : Nat → UInt64} {mv : Nat → Bool → Int32} {hg : Int32 → UInt64} {s : Nat} {W0 : Wt} (h0 : ∀ x, Q (W0.2.2.2 x)) {k : Nat} (hP : ∀ i b, i < k → Q (hg (mv i b))) : ∀ i, i ≤ k → ∀ x, Q ((wtS hh mv hg s W0 i).2.2.2 x)
  | 0, _, x => h0 x
  | i + 1, hi, x => by
    have ih := wtS_all (hh := hh) (mv := mv) (hg := hg) (s := s) h0 hP i (by omega) x
    unfold wtS
    split
    · show Q (up1 _ _ _ x)
      unfold up1
      split
      · exact hP i _ (by omega)
      · exact ih
    · exact ih
theorem wsG_cong {hg hg' : Int32 → UInt64} {s f sp k : Nat} {W0 : Wt} (hsp : sp ≤ 60) (hf : f < 2592000) (e : ∀ m, f ≤ m → m < 2 ^ 31 → hg (nI m) = hg' (nI m)) (i : Nat) (hi : i ≤ 200) : wsG hg s f sp k W0 i = wsG hg' s f sp k W0 i := by
  have b : ∀ j, j ≤ 203 → 60 * sp * j ≤ 3600 * 203 := fun j hj => Nat.mul_le_mul (by omega) hj
  unfold wsG
  refine wtS_cong ?_ ?_ ?_
  · intro j hj
    have := b j (by omega)
    exact e _ (by omega) (by omega)
  · intro j c hj
    have := b j (by omega)
    show nI (hvN _ _ _ _) = nI (hvN _ _ _ _)
    refine congrArg nI (hvN_cong 32 _ _ (by omega) (fun m h1 h2 => ?_))
    show upB c (hg (nI m)) (hg (nI (m + 1))) = upB c (hg' (nI m)) (hg' (nI (m + 1)))
    rw [e m (by omega) (by omega), e (m + 1) (by omega) (by omega)]
  · intro j c hj
    have := b j (by omega)
    have h9 := hvN_le (fun m => upB c (hg' (nI m)) (hg' (nI (m + 1)))) 32 (f + 60 * sp * j) (f + 60 * sp * j + 120 * sp) (by omega)
    exact e _ (by omega) (by omega)
section SA9
variable (g : Gp) (I : MI) (D : MD)
theorem hgtM_nz {I : MI} (n : Nat) (hn : n ≤ 60) (hw : ∀ i, i < n → ∃ w, w ≤ 8 ∧ I 79 i = nI w) (s t k : Int32) (h : ¬ ifF (I 75) (I 76) (I 77) s t k n = -1) : nz (hgtM I n s t k) := by
  unfold hgtM
  rcases ifF_in (I 75) (I 76) (I 77) s t k n with h1 | ⟨j, hj, h1⟩
  · exact absurd h1 h
  · obtain ⟨w, hw8, hwe⟩ := hw j hj
    rw [h1, nI_clamp (show j < 2 ^ 31 by omega), hwe, nI_clamp (show w < 2 ^ 31 by omega)]
    exact hG_nz _ _ _ w (by omega)
theorem ww_facts {I : MI} {D : MD} {n : Nat} (hn : n ≤ 60) (hw : ∀ i, i < n → ∃ w, w ≤ 8 ∧ I 79 i = nI w) {s f k sp : Nat} (hsp : sp ≤ 60) (hk : k ≤ 200) (hf : f + 60 * sp * (k - 1) < 2592000) (hne : ¬ sfM I (nI s) (nI f) (I 12 0) n = -1) (hA : ∀ x, fb 300 (D 100 x) ∧ nz (D 100 x)) :
    (wsM I D n s f sp k (k - 2)).1 ≤ 40 ∧ (∀ j, j < (wsM I D n s f sp k (k - 2)).1 → ∃ a, a < 2592000 ∧ (wsM I D n s f sp k (k - 2)).2.1 (40 * s + j) = nI a) ∧ (∀ x, fb 300 ((wsM I D n s f sp k (k - 2)).2.2.2 x) ∧ nz ((wsM I D n s f sp k (k - 2)).2.2.2 x)) ∧ ∀ q, (q < 40 * s ∨ 40 * s + 40 ≤ q) → (wsM I D n s f sp k (k - 2)).2.1 q = I 98 q := by
  have b : ∀ c i, i < k - 2 → f + 60 * sp * i ≤ hvN (fun m => upB c (hgM I n (nI s) (nI m)) (hgM I n (nI s) (nI (m + 1)))) 32 (f + 60 * sp * i) (f + 60 * sp * i + 120 * sp) ∧ hvN (fun m => upB c (hgM I n (nI s) (nI m)) (hgM I n (nI s) (nI (m + 1)))) 32 (f + 60 * sp * i) (f + 60 * sp * i + 120 * sp) < 2592000 := by
    intro c i hi
    have h9 := hvN_le (fun m => upB c (hgM I n (nI s) (nI m)) (hgM I n (nI s) (nI (m + 1)))) 32 (f + 60 * sp * i) (f + 60 * sp * i + 120 * sp) (by omega)
    have h8 : 60 * sp * (i + 2) ≤ 60 * sp * (k - 1) := Nat.mul_le_mul_left _ (by omega)
    have h7 : 60 * sp * (i + 2) = 60 * sp * i + 120 * sp := by rw [Nat.mul_add]; omega
    omega
  have v : ∀ m, f ≤ m → m < 2 ^ 31 → fb 300 (hgM I n (nI s) (nI m)) ∧ nz (hgM I n (nI s) (nI m)) := by
    intro m h1 h2
    have h3 : ¬ sfM I (nI s) (nI m) (I 12 0) n = -1 := ifF_later (by omega) h1 h2 hne
    unfold hgM
    rw [if_neg h3]
    exact ⟨hgtM_fb I n hn hw _ _ _ h3, hgtM_nz n hn hw _ _ _ h3⟩
  refine ⟨wtS_le _ _ _ _ _ (Nat.zero_le _) _, ?_, ?_, ?_⟩
  · refine wtS_inv (P := fun x _ _ => ∃ a, a < 2592000 ∧ x = nI a) rfl (k := k - 2) ?_ (k - 2) (Nat.le_refl _)
    intro i c hi
    exact ⟨_, (b c i hi).2, rfl⟩
  · refine wtS_all (Q := fun x => fb 300 x ∧ nz x) hA (k := k - 2) ?_ (k - 2) (Nat.le_refl _)
    intro i c hi
    have := b c i hi
    exact v _ (Nat.le_trans (Nat.le_add_right _ _) this.1) (Nat.lt_trans this.2 (by decide))
  · intro q hq
    exact (wtS_off (Nat.zero_le _) hq _).1
theorem hgM_c {J I : MI} (e : eqM J I) (n : Nat) (s t : Int32) : hgM J n s t = hgM I n s t := by
  unfold hgM
  rw [sfM_c e, hgtM_c e, e.q_onow]
theorem wwM_c {J I : MI} {E D : MD} (e : eqM J I) (e2 : E 100 = D 100) (n sp : Nat) (s f k : Int32) : wwM J E n sp s f k = wwM I D n sp s f k := by
  have e1 : (fun t => hgM J n (nI s.toNatClampNeg) t) = (fun t => hgM I n (nI s.toNatClampNeg) t) := by
    funext t
    exact hgM_c e n _ t
  show wsG (fun t => hgM J n (nI s.toNatClampNeg) t) _ _ _ _ (0, J 98, J 99, E 100) _ = wsG (fun t => hgM I n (nI s.toNatClampNeg) t) _ _ _ _ (0, I 98, I 99, D 100) _
  rw [e1, e.q_waterMoment, e.q_isHigh, e2]
theorem eqM_fn {I : MI} (s : Nat) (W : Wt) : eqM (fnX I s W) I := ⟨rfl, rfl, rfl, rfl, rfl, rfl, rfl, rfl, rfl, rfl, rfl, rfl, rfl, rfl, rfl, rfl, rfl, rfl, rfl, rfl, rfl, rfl, rfl, rfl, rfl, rfl, rfl, rfl, rfl, rfl, rfl, rfl, rfl, rfl, rfl, rfl, rfl, rfl, rfl, rfl⟩
theorem rel_ws {I : MI} {D : MD} {n m tk fd h q sp ms np : Nat} (H : RelP I D n m tk fd h q sp ms np) (s : Nat) (W : Wt) (a1 : W.1 ≤ 40) (a2 : ∀ j, j < W.1 → ∃ a, a < 2592000 ∧ W.2.1 (40 * s + j) = nI a) (a3 : ∀ x, fb 300 (W.2.2.2 x) ∧ nz (W.2.2.2 x)) (a4 : ∀ q, (q < 40 * s ∨ 40 * s + 40 ≤ q) → W.2.1 q = I 98 q) : RelP (fmX (fnX I s W) s W) (fmD (fnD D W) W) n m tk fd h q sp ms np := by
  obtain ⟨w1, w2, w3, w4, w5, w6, w7, w8, w9, w10, w11⟩ := H.wat
  refine ⟨H.now, H.fin, H.dra, H.sur, H.cnt, H.gau, H.sho, ⟨w1, w2, w3, w4, ?_, rfl, rfl, ⟨rfl, a3⟩, w9, w10, ?_⟩, H.shp, H.tra, H.fle, H.rou, H.win, H.pas⟩
  · show (fun b => if b = s then nI W.1 else I 36 b) = (fun b => if b = s then nI W.1 else I 97 b)
    rw [w5]
  · intro t ht
    show ∃ c, c ≤ 40 ∧ (if t = s then nI W.1 else I 97 t) = nI c ∧ ∀ j, j < c → (∃ a, a < 2592000 ∧ W.2.1 (40 * t + j) = nI a) ∧ fb 300 (W.2.2.2 (40 * t + j)) ∧ nz (W.2.2.2 (40 * t + j))
    by_cases e : t = s
    · subst e
      rw [if_pos rfl]
      exact ⟨W.1, a1, rfl, fun j hj => ⟨a2 j hj, a3 _⟩⟩
    · rw [if_neg e]
      obtain ⟨c, h1, h2, h3⟩ := w11 t ht
      refine ⟨c, h1, h2, fun j hj => ⟨?_, a3 _⟩⟩
      rw [a4 _ (by omega)]
      exact (h3 j hj).1
theorem p_waters (hr : Rel I D) (s f k : Int32) : Pair g 55 188 [.int s, .int f, .int k] I D := by
  obtain ⟨n, m, tk, fd, h, q, sp, ms, np, H⟩ := hr
  obtain ⟨w1, w2, w3, w4, w5, w6, w7, w8, w9, w10, w11⟩ := id H.wat
  have hX := fun sc sd => c_X_waters g 16 I D H.cnt.1 sp w2 w3 s f k sc sd
  have hM := fun J E a1 a2 sc sd => c_M_waters g 16 (n := n) (m := m) (tk := tk) (fd := fd) (b := h + q) (h := h) J E a1 sp w2 a2 s f k sc sd
  rw [H.now.1, H.fin.1, sf_eq H.sur] at hX
  cases c1 : wsOk s f k (nI sp) with
  | false =>
    rw [c1] at hX hM
    exact Pair.sc hX (hM I D H.cnt.2.1 w4) rfl H
  | true =>
    cases c2 : decide (3000 ≤ I 12 2) with
    | true =>
      have hM := hM I D H.cnt.2.1 w4
      rw [c1, c2] at hX hM
      exact Pair.sc hX hM rfl H
    | false =>
      have key : ∀ J E, eqM J I → (J 12 2 = I 12 2) → KM J n m tk fd (h + q) h → J 12 28 = nI sp → E 100 = D 100 → ∀ sc sd, Con g SHc 20 188 [.ref 12, .int s, .int f, .int k] (ovX J sc) (ovD E sd) (Sc (some (.int (sel3 true false (decide (sfM I s f (I 12 0) n = -1)) (-2) (-4) (-11) (nI (wwM I D n sp s f k).1)))) (sel3 true false (decide (sfM I s f (I 12 0) n = -1)) J J (tellM 1 J) (fmX J s.toNatClampNeg (wwM I D n sp s f k))) (sel3 true false (decide (sfM I s f (I 12 0) n = -1)) E E E (fmD E (wwM I D n sp s f k)))) := by
        intro J E e k1 a1 a2 e2 sc sd
        have h9 := hM J E a1 a2 sc sd
        rw [k1, e.q_onow, sfM_c e, wwM_c e e2, c1, c2] at h9
        exact h9
      rw [c1, c2] at hX
      cases c3 : decide (sfM I s f (I 12 0) n = -1) with
      | true =>
        rw [c3] at hX key
        have hM := key (tellX 1 I) D (eqM_te 1) rfl H.cnt.2.1 w4 rfl
        have e1 : ∀ (a b c e : Int32), sel3 true false true a b c e = c := fun _ _ _ _ => rfl
        have e2 : ∀ (a b c e : MI), sel3 true false true a b c e = c := fun _ _ _ _ => rfl
        have e3 : ∀ (a b c e : MD), sel3 true false true a b c e = c := fun _ _ _ _ => rfl
        rw [e1, e2, e3] at hX hM
        exact Pair.sc hX hM rfl (rel_fin H 1)
      | false =>
        have hne := of_decide_eq_false c3
        obtain ⟨s', f', k', rfl, rfl, rfl, hs, hk3, hk, hf⟩ := wsOk_e w2 c1
        have hs2 : (nI s').toNatClampNeg = s' := nI_clamp (by omega)
        have hf2 : (nI f').toNatClampNeg = f' := nI_clamp (by omega)
        have hk2 : (nI k').toNatClampNeg = k' := nI_clamp (by omega)
        have eW : wX I D n sp (nI s') (nI f') (nI k') = wwM I D n sp (nI s') (nI f') (nI k') := by
          show wsG (fun t => hgtX I n (nI (nI s').toNatClampNeg) t (I 0 11)) _ _ _ _ (0, I 37, I 38, D 39) _ = wsG (fun t => hgM I n (nI (nI s').toNatClampNeg) t) _ _ _ _ (0, I 98, I 99, D 100) _
          rw [hs2, hf2, hk2, w6, w7, w8.1, H.now.1]
          refine wsG_cong w2 (by omega) (fun m' h1 h2 => ?_) _ (by omega)
          have h3 : ¬ sfM I (nI s') (nI m') (I 12 0) n = -1 := ifF_later (show n < 2 ^ 31 by have := H.cnt.1.1.1; omega) h1 h2 hne
          show hgtX I n (nI s') (nI m') (I 12 0) = hgM I n (nI s') (nI m')
          unfold hgM
          rw [if_neg h3]
          exact hgt_eq H.sur H.cnt.1.1.1 h3
        have hF := ww_facts (I := I) (D := D) (s := s') (f := f') (k := k') (sp := sp) H.cnt.1.1.1 H.cnt.2.1.1.2.2 w2 hk hf hne w8.2
        have eW2 : wwM I D n sp (nI s') (nI f') (nI k') = wsM I D n s' f' sp k' (k' - 2) := by
          show wsM I D n (nI s').toNatClampNeg (nI f').toNatClampNeg sp (nI k').toNatClampNeg ((nI k').toNatClampNeg - 2) = _
          rw [hs2, hf2, hk2]
        rw [eW, eW2, c3, hs2] at hX
        rw [eW2, c3, hs2] at key
        generalize wsM I D n s' f' sp k' (k' - 2) = W at hX key hF
        have e1 : ∀ (a b c e : Int32), sel3 true false false a b c e = e := fun _ _ _ _ => rfl
        have e2 : ∀ (a b c e : MI), sel3 true false false a b c e = e := fun _ _ _ _ => rfl
        have e3 : ∀ (a b c e : MD), sel3 true false false a b c e = e := fun _ _ _ _ => rfl
        have hM := key (fnX I s' W) (fnD D W) (eqM_fn _ _) rfl H.cnt.2.1 w4 rfl
        rw [e1, e2, e3] at hX hM
        exact Pair.sc hX hM rfl (rel_ws H s' W hF.1 hF.2.1 hF.2.2.1 hF.2.2.2)
end SA9
