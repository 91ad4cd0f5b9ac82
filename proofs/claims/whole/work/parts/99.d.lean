/-! comes -/
section SA2
variable (g : Gp) (I : MI) (D : MD)
theorem p_comes (hr : Rel I D) (s rt i t : Int32) : Pair g 113 228 [.int s, .int rt, .int i, .int t] I D := by
  obtain ⟨n, m, tk, fd, h, q, sp, ms, np, H⟩ := hr
  obtain ⟨hms, t1, t2, -, -, -, -, -, -, -, hP, hR9, -⟩ := id H.shp
  have hL : ∀ r, r < 6 → ∃ l, l ≤ 4 ∧ I 117 r = nI l := fun r hr => by
    obtain ⟨l, h1, h2, -⟩ := H.rou.2.2.2.2.2.1 r hr
    exact ⟨l, h1, h2⟩
  have hX := fun sc D' => c_X_comes g 6 I D' ms hms t1 hP (by rw [H.rou.1]; exact hL) s rt i t sc
  have hM := fun J a1 a2 a3 sc D' => c_M_comes g 6 J D' ms hms a1 (fun j => (I 108 j).toNatClampNeg) a2 a3 s rt i t sc
  unfold sX at hX
  unfold sM at hM
  rw [H.fin.1, ask_eq H.shp, H.tra.2.1, H.rou.1, H.rou.2.2.1] at hX
  have key : ∀ J, eqM J I → (J 12 2 = I 12 2) → (J 109 = I 109) → J 12 49 = nI ms → rkOk (J 103) (fun j => J 107 (2 * j)) (fun j => J 107 (2 * j + 1)) (fun j => (I 108 j).toNatClampNeg) ms → (∀ r, r < 6 → ∃ l, l ≤ 4 ∧ J 117 r = nI l) → ∀ sc D', Con g SHc 20 228 [.ref 12, .int s, .int rt, .int i, .int t] (ovX J sc) D' (fun o J' E => E = D' ∧ o = some (.int (sel3 (ix s (nI ms) && wi rt 0 5 && ix i (I 117 rt.toNatClampNeg) && wi t 0 2591999) (decide (3000 ≤ I 12 2)) (!decide ((askM I 2 5 s).1 = 0)) (-2) (-4) (-10 - (askM I 2 5 s).1) (cmF t (I 119 (4 * rt.toNatClampNeg + i.toNatClampNeg)) (askM I 2 5 s).2.1))) ∧ ∃ sc', J' = ovX (sel3 (ix s (nI ms) && wi rt 0 5 && ix i (I 117 rt.toNatClampNeg) && wi t 0 2591999) (decide (3000 ≤ I 12 2)) (!decide ((askM I 2 5 s).1 = 0)) J J (tellM (askM I 2 5 s).1 (trM J (begsT (0, I 109) (askM I 2 5 s).2.2))) (trM J (begsT (0, I 109) (askM I 2 5 s).2.2))) sc') := by
    intro J e k1 k2 a1 a2 a3 sc D'
    have h9 := hM J a1 a2 a3 sc D'
    rw [k1, k2, askM_c e, e.q_legs, e.q_legDistance] at h9
    exact h9
  generalize askM I 2 5 s = V at hX key
  obtain ⟨T, hT⟩ : ∃ T, T = begsT (0, I 109) V.2.2 := ⟨_, rfl⟩
  have hT100 : T.1 ≤ 100 := by rw [hT]; exact begsT_le _ (Nat.zero_le _)
  rw [← hT] at hX key
  cases c1 : (ix s (nI ms) && wi rt 0 5 && ix i (I 117 rt.toNatClampNeg) && wi t 0 2591999) with
  | false =>
    rw [c1] at hX key
    exact Pair.sc (sc_mk hX) (sc_mk (key I (eqM_r I) rfl rfl t2 hR9 hL)) rfl H
  | true =>
    rw [c1] at hX key
    cases c2 : decide (3000 ≤ I 12 2) with
    | true =>
      rw [c2] at hX key
      exact Pair.sc (sc_mk hX) (sc_mk (key I (eqM_r I) rfl rfl t2 hR9 hL)) rfl H
    | false =>
      rw [c2] at hX key
      cases c3 : (!decide (V.1 = 0)) with
      | true =>
        rw [c3] at hX key
        exact Pair.sc (sc_mk hX) (sc_mk (key (tellX V.1 (trX I T)) (eqM_t (eqM_te _) (eqM_tr T)) rfl rfl t2 hR9 hL)) rfl (rel_ft H T hT100 V.1)
      | false =>
        rw [c3] at hX key
        exact Pair.sc (sc_mk hX) (sc_mk (key (trX I T) (eqM_tr T) rfl rfl t2 hR9 hL)) rfl (rel_tr H T hT100)
end SA2
