/-! surge, water -/
section SA8
variable (g : Gp) (I : MI) (D : MD)
theorem rel_lk {I : MI} {D : MD} {n m tk fd h q sp ms np : Nat} (H : RelP I D n m tk fd h q sp ms np) (v : Int32) : RelP (up2 (up2 I 0 13 v) 12 29 v) D n m tk fd h q sp ms np :=
  ⟨H.now, H.fin, H.dra, H.sur, H.cnt, H.gau, H.sho, ⟨rfl, H.wat.2⟩, H.shp, H.tra, H.fle, H.rou, H.win, H.pas⟩
theorem rel_lf {I : MI} {D : MD} {n m tk fd h q sp ms np : Nat} (H : RelP I D n m tk fd h q sp ms np) (v f : Int32) : RelP (tellM f (up2 (tellX f (up2 I 0 13 v)) 12 29 v)) D n m tk fd h q sp ms np :=
  ⟨H.now, ⟨by show I 1 0 + 1 = I 12 2 + 1; rw [H.fin.1], rfl⟩, H.dra, H.sur, H.cnt, H.gau, H.sho, ⟨rfl, H.wat.2⟩, H.shp, H.tra, H.fle, H.rou, H.win, H.pas⟩
theorem p_surge (hr : Rel I D) (ga t : Int32) : Pair g 36 177 [.int ga, .int t] I D := by
  obtain ⟨n, m, tk, fd, h, q, sp, ms, np, H⟩ := hr
  have hX := fun sc sd => c_X_surge' g 17 I D H.cnt.1 ga t sc sd
  have hM := fun J a1 sc sd => c_M_surge' g 17 (n := n) (m := m) (tk := tk) (fd := fd) (b := h + q) (h := h) J D a1 ga t sc sd
  rw [H.now.1, H.fin.1, sr_eq H.sur H.gau H.cnt.1.1.1, H.gau.2.2.2.1] at hX
  have key : ∀ J, eqM J I → (J 12 2 = I 12 2) → KM J n m tk fd (h + q) h → ∀ sc sd, Con g SHc 20 177 [.ref 12, .int ga, .int t] (ovX J sc) (ovD D sd) (Sc (some (.long (suA (ix ga (nI m) && wi t 0 2591999 && !decide (3000 ≤ I 12 2)) (!decide (I 86 ga.toNatClampNeg = 0)) (srM I n tk ga.toNatClampNeg t) (sv fd t (srM I n tk ga.toNatClampNeg t))))) (suIM (ix ga (nI m) && wi t 0 2591999 && !decide (3000 ≤ I 12 2)) (!decide (I 86 ga.toNatClampNeg = 0)) (srM I n tk ga.toNatClampNeg t) J) D) := by
    intro J e k1 a1 sc sd
    have h9 := hM J a1 sc sd
    rw [k1, srM_c e, e.q_isOut] at h9
    exact h9
  generalize sv fd t (srM I n tk ga.toNatClampNeg t) = w at hX key
  generalize srM I n tk ga.toNatClampNeg t = C at hX key
  cases c1 : (ix ga (nI m) && wi t 0 2591999 && !decide (3000 ≤ I 12 2)) with
  | false =>
    rw [c1] at hX key
    cases c2 : (!decide (I 86 ga.toNatClampNeg = 0)) with
    | false =>
      rw [c2] at hX key
      exact Pair.sc hX (key I (eqM_r I) rfl H.cnt.2.1) rfl H
    | true =>
      rw [c2] at hX key
      exact Pair.sc hX (key I (eqM_r I) rfl H.cnt.2.1) rfl H
  | true =>
    rw [c1] at hX key
    cases c2 : (!decide (I 86 ga.toNatClampNeg = 0)) with
    | true =>
      rw [c2] at hX key
      exact Pair.sc hX (key (tellX 1 I) (eqM_te _) rfl H.cnt.2.1) rfl (rel_fin H 1)
    | false =>
      rw [c2] at hX key
      by_cases c3 : C.n = 0
      · have e0 : suA true false C w = 9221120237041090560 := if_pos c3
        have e1 : suIX true false C I = tellX 7 (up2 I 0 13 (nI C.k)) := if_pos c3
        have e2 : ∀ J, suIM true false C J = tellM 7 (up2 J 12 29 (nI C.k)) := fun J => if_pos c3
        rw [e0, e1] at hX
        have hM := key (tellX 7 (up2 I 0 13 (nI C.k))) (eqM_t (eqM_te _) (eqM_lk _)) rfl H.cnt.2.1
        rw [e0, e2] at hM
        exact Pair.sc hX hM rfl (rel_lf H _ 7)
      · have e0 : suA true false C w = w.toInt64 := if_neg c3
        have e1 : suIX true false C I = up2 I 0 13 (nI C.k) := if_neg c3
        have e2 : ∀ J, suIM true false C J = up2 J 12 29 (nI C.k) := fun J => if_neg c3
        rw [e0, e1] at hX
        have hM := key (up2 I 0 13 (nI C.k)) (eqM_lk _) rfl H.cnt.2.1
        rw [e0, e2] at hM
        exact Pair.sc hX hM rfl (rel_lk H _)
theorem p_water (hr : Rel I D) (s t : Int32) : Pair g 52 186 [.int s, .int t] I D := by
  obtain ⟨n, m, tk, fd, h, q, sp, ms, np, H⟩ := hr
  have hX := fun sc sd => c_X_water g 16 I D H.cnt.1 s t sc sd
  have hM := fun J a1 sc sd => c_M_water g 16 (n := n) (m := m) (tk := tk) (fd := fd) (b := h + q) (h := h) J D a1 s t sc sd
  rw [H.now.1, H.fin.1, bf_eq H.sho, H.sho.1, sf_eq H.sur] at hX
  have key : ∀ J, eqM J I → (J 12 2 = I 12 2) → KM J n m tk fd (h + q) h → ∀ sc sd, Con g SHc 20 186 [.ref 12, .int s, .int t] (ovX J sc) (ovD D sd) (Sc (some (.long (waA (ix s (nI h) && wi t 0 2591999 && !decide (3000 ≤ I 12 2)) (decide (bfM I s t (I 12 0) (h + q) = -1 ∨ sfM I (I 91 s.toNatClampNeg) t (I 12 0) n = -1)) (wtM I n m tk fd (h + q) s.toNatClampNeg t)))) (waI (ix s (nI h) && wi t 0 2591999 && !decide (3000 ≤ I 12 2)) (decide (bfM I s t (I 12 0) (h + q) = -1 ∨ sfM I (I 91 s.toNatClampNeg) t (I 12 0) n = -1)) J (tellM 1 J)) D) := by
    intro J e k1 a1 sc sd
    have h9 := hM J a1 sc sd
    rw [k1, wtM_c e, e.q_shoalStation, e.q_onow, bfM_c e, sfM_c e] at h9
    exact h9
  cases c2 : (decide (bfM I s t (I 12 0) (h + q) = -1 ∨ sfM I (I 91 s.toNatClampNeg) t (I 12 0) n = -1)) with
  | false =>
    rw [wt_eq H.sur H.gau H.sho H.cnt.1.1.1 (fun z => of_decide_eq_false c2 (Or.inr z)), c2] at hX
    rw [c2] at key
    generalize wtM I n m tk fd (h + q) s.toNatClampNeg t = w at hX key
    cases c1 : (ix s (nI h) && wi t 0 2591999 && !decide (3000 ≤ I 12 2)) with
    | false =>
      rw [c1] at hX key
      exact Pair.sc hX (key I (eqM_r I) rfl H.cnt.2.1) rfl H
    | true =>
      rw [c1] at hX key
      exact Pair.sc hX (key I (eqM_r I) rfl H.cnt.2.1) rfl H
  | true =>
    have e0 : ∀ b w, waA b true w = 9221120237041090560 := fun b _ => by cases b <;> rfl
    rw [c2, e0] at hX
    rw [c2, e0] at key
    cases c1 : (ix s (nI h) && wi t 0 2591999 && !decide (3000 ≤ I 12 2)) with
    | false =>
      rw [c1] at hX key
      exact Pair.sc hX (key I (eqM_r I) rfl H.cnt.2.1) rfl H
    | true =>
      rw [c1] at hX key
      exact Pair.sc hX (key (tellX 1 I) (eqM_te _) rfl H.cnt.2.1) rfl (rel_fin H 1)
end SA8
