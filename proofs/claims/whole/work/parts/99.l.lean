/-! move -/
theorem mvG_rel {P : Int32 → Prop} {kd : Nat → Int32} {so : Int32} {c c' : Nat → Int32} {base : Nat} {pl pl' : Nat → Int32} : ∀ n, (∀ k, k < n → c k = c' k ∧ P (c' k)) → (mvG kd so c base pl n).1 = (mvG kd so c' base pl' n).1 ∧ ∀ x, (pl x = pl' x ∧ P (pl' x)) → (mvG kd so c base pl n).2 x = (mvG kd so c' base pl' n).2 x ∧ P ((mvG kd so c' base pl' n).2 x)
  | 0, _ => ⟨rfl, fun _ h => h⟩
  | n + 1, h => by
    have ih := mvG_rel (P := P) (kd := kd) (so := so) (base := base) (pl := pl) (pl' := pl') n (fun k hk => h k (by omega))
    have hn := h n (by omega)
    unfold mvG
    rw [ih.1, hn.1]
    by_cases e : (mvG kd so c' base pl' n).1 = true ∧ tkB kd so (c' n) = true
    · rw [if_pos e, if_pos e]
      refine ⟨rfl, fun x hx => ?_⟩
      show up1 _ _ _ x = up1 _ _ _ x ∧ P (up1 _ _ _ x)
      unfold up1
      by_cases ex : x = base + n
      · rw [if_pos ex, if_pos ex]
        exact ⟨rfl, hn.2⟩
      · rw [if_neg ex, if_neg ex]
        exact ih.2 x hx
    · rw [if_neg e, if_neg e]
      exact ⟨rfl, ih.2⟩
section SB0
variable (g : Gp) (I : MI) (D : MD)
theorem fl_st {I : MI} {ms f : Nat} (H : RFle I ms) (hf : f < 4) : I 55 f = 0 ↔ I 111 f = -1 := by
  rcases H f hf with ⟨z1, z2, z3⟩ | ⟨z1, n, h1, h2, h3, -⟩
  · exact ⟨fun _ => z3, fun _ => z1⟩
  · refine ⟨fun z => ?_, fun z => ?_⟩
    · rw [z1] at z; exact absurd z (by decide)
    · rw [h3] at z; exact absurd z (nI_neg1 (by omega))
theorem rel_mv {I : MI} {D : MD} {n m tk fd h q sp ms np : Nat} (H : RelP I D n m tk fd h q sp ms np) (A B : Nat → Int32) (hAB : ∀ x, (I 58 x = I 112 x ∧ shN (I 112 x) ms = true) → A x = B x ∧ shN (B x) ms = true) : RelP (upc (upc I 58 A) 112 B) D n m tk fd h q sp ms np := by
  refine ⟨H.now, H.fin, H.dra, H.sur, H.cnt, H.gau, H.sho, H.wat, H.shp, H.tra, ?_, H.rou, H.win, H.pas⟩
  intro f hf
  rcases H.fle f hf with z | ⟨z1, n, h1, h2, h3, h4, h5, h6⟩
  · exact Or.inl z
  · exact Or.inr ⟨z1, n, h1, h2, h3, h4, h5, fun i hi => hAB _ (h6 i hi)⟩
theorem rel_mf {I : MI} {D : MD} {n m tk fd h q sp ms np : Nat} (H : RelP I D n m tk fd h q sp ms np) (A B : Nat → Int32) (hAB : ∀ x, (I 58 x = I 112 x ∧ shN (I 112 x) ms = true) → A x = B x ∧ shN (B x) ms = true) (v : Int32) : RelP (tellM v (upc (tellX v (upc I 58 A)) 112 B)) D n m tk fd h q sp ms np := by
  refine ⟨H.now, ⟨by show I 1 0 + 1 = I 12 2 + 1; rw [H.fin.1], rfl⟩, H.dra, H.sur, H.cnt, H.gau, H.sho, H.wat, H.shp, H.tra, ?_, H.rou, H.win, H.pas⟩
  intro f hf
  rcases H.fle f hf with z | ⟨z1, n, h1, h2, h3, h4, h5, h6⟩
  · exact Or.inl z
  · exact Or.inr ⟨z1, n, h1, h2, h3, h4, h5, fun i hi => hAB _ (h6 i hi)⟩
theorem p_move (hr : Rel I D) (f i o j n : Int32) : Pair g 99 221 [.int f, .int i, .int o, .int j, .int n] I D := by
  obtain ⟨n0, m, tk, fd, h, q, sp, ms, np, H⟩ := hr
  obtain ⟨hms, t1, t2, t3, -⟩ := id H.shp
  have fx : ∀ f k, f < 4 → nI k < I 57 f → k < 8 → shN (I 58 (8 * f + k)) ms = true := by
    intro f k hf hk h8
    rcases H.fle f hf with ⟨-, z, -⟩ | ⟨-, n, h1, h2, h3, -, -, h6⟩
    · rw [z] at hk
      exact absurd hk (i32_nlt.mpr (nI_le (a := 0) (by omega) (by omega)))
    · rw [h2] at hk
      have : k < n := Nat.lt_of_not_le (fun z => absurd hk (i32_nlt.mpr (nI_le z (by omega))))
      rw [(h6 k this).1]
      exact (h6 k this).2
  have fm : ∀ f k, f < 4 → nI k < I 111 f → k < 8 → shN (I 112 (8 * f + k)) ms = true := by
    intro f k hf hk h8
    rcases H.fle f hf with ⟨-, -, z⟩ | ⟨-, n, h1, h2, h3, -, -, h6⟩
    · rw [z] at hk
      exact absurd hk (i32_nlt.mpr (Int32.le_trans (by decide) (nI_le (a := 0) (b := k) (by omega) (by omega))))
    · rw [h3] at hk
      have : k < n := Nat.lt_of_not_le (fun z => absurd hk (i32_nlt.mpr (nI_le z (by omega))))
      exact (h6 k this).2
  have fs : ∀ j, j < 4 → I 111 j = -1 ∨ ∃ z, z ≤ 8 ∧ I 111 j = nI z := by
    intro j hj
    rcases H.fle j hj with ⟨-, -, z⟩ | ⟨-, n, h1, h2, h3, -⟩
    · exact Or.inl z
    · exact Or.inr ⟨n, h1, h3⟩
  have hX := sc_mk (D := D) (fun sc D' => c_X_move g 17 I D' ms hms (fl_X H.fle) fx f i o j n sc)
  have hM := fun J a1 a2 => sc_mk (D := D) (fun sc D' => c_M_move g 17 J D' ms hms a1 a2 f i o j n sc)
  rw [H.fin.1] at hX
  cases c1 : mvOk f o with
  | false =>
    rw [c1] at hX hM
    have s1 : ∀ (x y z u : Bool) (a b c e v w : Int32), sel5 false x y z u a b c e v w = a := fun _ _ _ _ _ _ _ _ _ _ => rfl
    have s2 : ∀ (x y z u : Bool) (a b c e v w : MI), sel5 false x y z u a b c e v w = a := fun _ _ _ _ _ _ _ _ _ _ => rfl
    have hM := hM I fs fm
    rw [s1, s2] at hX hM
    exact Pair.sc hX hM rfl H
  | true =>
    rw [c1] at hX hM
    cases c2 : decide (3000 ≤ I 12 2) with
    | true =>
      have hM := hM I fs fm
      rw [c2] at hX hM
      have s1 : ∀ (y z u : Bool) (a b c e v w : Int32), sel5 true true y z u a b c e v w = b := fun _ _ _ _ _ _ _ _ _ => rfl
      have s2 : ∀ (y z u : Bool) (a b c e v w : MI), sel5 true true y z u a b c e v w = b := fun _ _ _ _ _ _ _ _ _ => rfl
      rw [s1, s2] at hX hM
      exact Pair.sc hX hM rfl H
    | false =>
      have key : ∀ J, (J 12 2 = I 12 2) → (J 111 = I 111) → (J 110 = I 110) → (J 112 = I 112) → (J 103 = I 103) → ∀ sc sd, Con g SHc 20 221 [.ref 12, .int f, .int i, .int o, .int j, .int n] (ovX J sc) (ovD D sd) (Sc (some (.int (sel5 true false (decide (I 111 f.toNatClampNeg = -1 ∨ I 111 o.toNatClampNeg = -1)) (!(spB i n (I 111 f.toNatClampNeg) && spB j n (I 111 o.toNatClampNeg))) (!(mvM I f.toNatClampNeg o.toNatClampNeg i.toNatClampNeg j.toNatClampNeg n.toNatClampNeg).1) (-2) (-4) (-11) (-12) (-16) n))) (sel5 true false (decide (I 111 f.toNatClampNeg = -1 ∨ I 111 o.toNatClampNeg = -1)) (!(spB i n (I 111 f.toNatClampNeg) && spB j n (I 111 o.toNatClampNeg))) (!(mvM I f.toNatClampNeg o.toNatClampNeg i.toNatClampNeg j.toNatClampNeg n.toNatClampNeg).1) J J (tellM 1 J) (tellM 2 J) (tellM 6 (upc J 112 (mvM I f.toNatClampNeg o.toNatClampNeg i.toNatClampNeg j.toNatClampNeg n.toNatClampNeg).2)) (upc J 112 (mvM I f.toNatClampNeg o.toNatClampNeg i.toNatClampNeg j.toNatClampNeg n.toNatClampNeg).2)) D) := by
        intro J k1 k2 k3 k4 k5 sc sd
        have h9 := hM J (by rw [k2]; exact fs) (by rw [k2, k4]; exact fm) sc sd
        have em : mvM J f.toNatClampNeg o.toNatClampNeg i.toNatClampNeg j.toNatClampNeg n.toNatClampNeg = mvM I f.toNatClampNeg o.toNatClampNeg i.toNatClampNeg j.toNatClampNeg n.toNatClampNeg := by
          show mvG (J 103) (J 110 o.toNatClampNeg) (fun k => J 112 (8 * f.toNatClampNeg + i.toNatClampNeg + k)) _ (J 112) _ = mvG (I 103) (I 110 o.toNatClampNeg) (fun k => I 112 (8 * f.toNatClampNeg + i.toNatClampNeg + k)) _ (I 112) _
          rw [k3, k4, k5]
        rw [k1, k2, em, c2] at h9
        exact h9
      rw [c2] at hX
      obtain ⟨f', o', rfl, rfl, hf, ho⟩ : ∃ f' o', f = nI f' ∧ o = nI o' ∧ f' < 4 ∧ o' < 4 := by
        unfold mvOk at c1
        rw [Bool.and_eq_true] at c1
        obtain ⟨f', hf, rfl⟩ := wi_nI (m := 3) (by decide) c1.1
        obtain ⟨o', ho, rfl⟩ := wi_nI (m := 3) (by decide) c1.2
        exact ⟨f', o', rfl, rfl, by omega, by omega⟩
      have fc : (nI f').toNatClampNeg = f' := nI_clamp (by omega)
      have oc : (nI o').toNatClampNeg = o' := nI_clamp (by omega)
      rw [fc, oc] at hX key
      rw [show decide (I 55 f' = 0 ∨ I 55 o' = 0) = decide (I 111 f' = -1 ∨ I 111 o' = -1) from decide_eq_decide.mpr (or_congr (fl_st H.fle hf) (fl_st H.fle ho))] at hX
      cases c3 : decide (I 111 f' = -1 ∨ I 111 o' = -1) with
      | true =>
        rw [c3] at hX key
        have hM := key (tellX 1 I) rfl rfl rfl rfl rfl
        have s1 : ∀ (z u : Bool) (a b c e v w : Int32), sel5 true false true z u a b c e v w = c := fun _ _ _ _ _ _ _ _ => rfl
        have s2 : ∀ (z u : Bool) (a b c e v w : MI), sel5 true false true z u a b c e v w = c := fun _ _ _ _ _ _ _ _ => rfl
        rw [s1, s2] at hX hM
        exact Pair.sc hX hM rfl (rel_fin H 1)
      | false =>
        have hne := of_decide_eq_false c3
        rw [c3] at hX key
        obtain ⟨zf, hz1, ezf, ezf', -, -, hpf⟩ : ∃ z, z ≤ 8 ∧ I 57 f' = nI z ∧ I 111 f' = nI z ∧ I 56 f' = I 110 f' ∧ wi (I 110 f') 0 5 = true ∧ ∀ i, i < z → I 58 (8 * f' + i) = I 112 (8 * f' + i) ∧ shN (I 112 (8 * f' + i)) ms = true := by
          rcases H.fle f' hf with ⟨-, -, z⟩ | ⟨-, z⟩
          · exact absurd (Or.inl z) hne
          · exact z
        obtain ⟨zo, hz2, ezo, ezo', eso, -, -⟩ : ∃ z, z ≤ 8 ∧ I 57 o' = nI z ∧ I 111 o' = nI z ∧ I 56 o' = I 110 o' ∧ wi (I 110 o') 0 5 = true ∧ ∀ i, i < z → I 58 (8 * o' + i) = I 112 (8 * o' + i) ∧ shN (I 112 (8 * o' + i)) ms = true := by
          rcases H.fle o' ho with ⟨-, -, z⟩ | ⟨-, z⟩
          · exact absurd (Or.inr z) hne
          · exact z
        rw [ezf, ezo] at hX
        rw [ezf', ezo'] at key
        cases c4 : (spB i n (nI zf) && spB j n (nI zo)) with
        | false =>
          rw [c4] at hX key
          have hM := key (tellX 2 I) rfl rfl rfl rfl rfl
          have s1 : ∀ (u : Bool) (a b c e v w : Int32), sel5 true false false (!false) u a b c e v w = e := fun _ _ _ _ _ _ _ => rfl
          have s2 : ∀ (u : Bool) (a b c e v w : MI), sel5 true false false (!false) u a b c e v w = e := fun _ _ _ _ _ _ _ => rfl
          rw [s1, s2] at hX hM
          exact Pair.sc hX hM rfl (rel_fin H 2)
        | true =>
          rw [c4] at hX key
          rw [Bool.and_eq_true] at c4
          obtain ⟨i', n', rfl, rfl, hin⟩ := spB_e hz1 c4.1
          have ic : (nI i').toNatClampNeg = i' := nI_clamp (by omega)
          have nc : (nI n').toNatClampNeg = n' := nI_clamp (by omega)
          rw [ic, nc] at hX key
          have L := mvG_rel (P := fun x => shN x ms = true) (kd := I 103) (so := I 110 o') (c := fun k => I 58 (8 * f' + i' + k)) (c' := fun k => I 112 (8 * f' + i' + k)) (base := 8 * o' + j.toNatClampNeg) (pl := I 58) (pl' := I 112) n' (fun k hk => by
            have := hpf (i' + k) (by omega)
            rw [← Nat.add_assoc] at this
            exact this)
          have eX : mvX I f' o' i' j.toNatClampNeg n' = mvG (I 103) (I 110 o') (fun k => I 58 (8 * f' + i' + k)) (8 * o' + j.toNatClampNeg) (I 58) n' := by
            show mvG _ _ _ _ _ _ = _
            rw [t3, eso]
          have eM : mvM I f' o' i' j.toNatClampNeg n' = mvG (I 103) (I 110 o') (fun k => I 112 (8 * f' + i' + k)) (8 * o' + j.toNatClampNeg) (I 112) n' := rfl
          rw [eX] at hX
          rw [eM] at key
          generalize mvG (I 103) (I 110 o') (fun k => I 58 (8 * f' + i' + k)) (8 * o' + j.toNatClampNeg) (I 58) n' = A at hX L
          generalize mvG (I 103) (I 110 o') (fun k => I 112 (8 * f' + i' + k)) (8 * o' + j.toNatClampNeg) (I 112) n' = B at key L
          rw [L.1] at hX
          cases c5 : B.1 with
          | false =>
            rw [c5] at hX key
            have hM := key (tellX 6 (upc I 58 A.2)) rfl rfl rfl rfl rfl
            have s1 : ∀ (a b c e v w : Int32), sel5 true false false (!true) (!false) a b c e v w = v := fun _ _ _ _ _ _ => rfl
            have s2 : ∀ (a b c e v w : MI), sel5 true false false (!true) (!false) a b c e v w = v := fun _ _ _ _ _ _ => rfl
            rw [s1, s2] at hX hM
            exact Pair.sc hX hM rfl (rel_mf H A.2 B.2 L.2 6)
          | true =>
            rw [c5] at hX key
            have hM := key (upc I 58 A.2) rfl rfl rfl rfl rfl
            have s1 : ∀ (a b c e v w : Int32), sel5 true false false (!true) (!true) a b c e v w = w := fun _ _ _ _ _ _ => rfl
            have s2 : ∀ (a b c e v w : MI), sel5 true false false (!true) (!true) a b c e v w = w := fun _ _ _ _ _ _ => rfl
            rw [s1, s2] at hX hM
            exact Pair.sc hX hM rfl (rel_mv H A.2 B.2 L.2)
end SB0
