/-! ask, comes -/
theorem sc_mk {g : Gp} {mid : Nat} {As : List Value} {I I1 : MI} {D : MD} {r : Option Value} (h : ∀ (sc : MI) (D' : MD), Con g SHc 20 mid As (ovX I sc) D' (fun o J E => E = D' ∧ o = r ∧ ∃ sc', J = ovX I1 sc')) : ∀ sc sd, Con g SHc 20 mid As (ovX I sc) (ovD D sd) (Sc r I1 D) := by
  intro sc sd
  refine con_mono (h sc (ovD D sd)) ?_
  rintro o J E ⟨rfl, rfl, sc', rfl⟩
  exact ⟨rfl, sc', sd, rfl, rfl⟩
theorem eqM_r (I : MI) : eqM I I := ⟨rfl, rfl, rfl, rfl, rfl, rfl, rfl, rfl, rfl, rfl, rfl, rfl, rfl, rfl, rfl, rfl, rfl, rfl, rfl, rfl, rfl, rfl, rfl, rfl, rfl, rfl, rfl, rfl, rfl, rfl, rfl, rfl, rfl, rfl, rfl, rfl, rfl, rfl, rfl, rfl⟩
section SA1
variable (g : Gp) (I : MI) (D : MD)
theorem rel_ak {I : MI} {D : MD} {n m tk fd h q sp ms np : Nat} (H : RelP I D n m tk fd h q sp ms np) (T : Tr) (hT : T.1 ≤ 100) (v : Int32) : RelP (up2 (trM (up2 (trX I T) 0 12 v) T) 12 56 v) D n m tk fd h q sp ms np :=
  ⟨H.now, H.fin, H.dra, H.sur, H.cnt, H.gau, H.sho, H.wat, H.shp, ⟨rfl, rfl, T.1, hT, rfl, rfl⟩, H.fle, H.rou, H.win, H.pas⟩
theorem eqM_la {I : MI} (v : Int32) : eqM (up2 I 0 12 v) I := ⟨rfl, rfl, rfl, rfl, rfl, rfl, rfl, rfl, rfl, rfl, rfl, rfl, rfl, rfl, rfl, rfl, rfl, rfl, rfl, rfl, rfl, rfl, rfl, rfl, rfl, rfl, rfl, rfl, rfl, rfl, rfl, rfl, rfl, rfl, rfl, rfl, rfl, rfl, rfl, rfl⟩
theorem p_ask (hr : Rel I D) (s w : Int32) : Pair g 77 202 [.int s, .int w] I D := by
  obtain ⟨n, m, tk, fd, h, q, sp, ms, np, H⟩ := hr
  obtain ⟨hms, t1, t2, -, -, -, -, -, -, -, hP, hR9, -⟩ := id H.shp
  have hX := fun sc D' => c_X_ask g 6 I D' ms hms t1 hP s w sc
  have hM := fun J a1 a2 sc D' => c_M_ask g 6 J D' ms hms a1 (fun j => (I 108 j).toNatClampNeg) a2 s w sc
  unfold sX at hX
  unfold sM at hM
  rw [H.fin.1, ask_eq H.shp, H.tra.2.1] at hX
  have key : ∀ J, eqM J I → (J 12 2 = I 12 2) → (J 109 = I 109) → J 12 49 = nI ms → rkOk (J 103) (fun j => J 107 (2 * j)) (fun j => J 107 (2 * j + 1)) (fun j => (I 108 j).toNatClampNeg) ms → ∀ sc D', Con g SHc 20 202 [.ref 12, .int s, .int w] (ovX J sc) D' (fun o J' E => E = D' ∧ o = some (.int (sel3 (ix s (nI ms) && wi w 0 4) (decide (3000 ≤ I 12 2)) (!decide ((askM I w 5 s).1 = 0)) (-2) (-4) (-10 - (askM I w 5 s).1) 1)) ∧ ∃ sc', J' = ovX (sel3 (ix s (nI ms) && wi w 0 4) (decide (3000 ≤ I 12 2)) (!decide ((askM I w 5 s).1 = 0)) J J (tellM (askM I w 5 s).1 (trM J (begsT (0, I 109) (askM I w 5 s).2.2))) (up2 (trM J (begsT (0, I 109) (askM I w 5 s).2.2)) 12 56 (askM I w 5 s).2.1)) sc') := by
    intro J e k1 k2 a1 a2 sc D'
    have h9 := hM J a1 a2 sc D'
    rw [k1, k2, askM_c e] at h9
    exact h9
  generalize askM I w 5 s = V at hX key
  obtain ⟨T, hT⟩ : ∃ T, T = begsT (0, I 109) V.2.2 := ⟨_, rfl⟩
  have hT100 : T.1 ≤ 100 := by rw [hT]; exact begsT_le _ (Nat.zero_le _)
  rw [← hT] at hX key
  cases c1 : (ix s (nI ms) && wi w 0 4) with
  | false =>
    rw [c1] at hX key
    exact Pair.sc (sc_mk hX) (sc_mk (key I (eqM_r I) rfl rfl t2 hR9)) rfl H
  | true =>
    rw [c1] at hX key
    cases c2 : decide (3000 ≤ I 12 2) with
    | true =>
      rw [c2] at hX key
      exact Pair.sc (sc_mk hX) (sc_mk (key I (eqM_r I) rfl rfl t2 hR9)) rfl H
    | false =>
      rw [c2] at hX key
      cases c3 : (!decide (V.1 = 0)) with
      | true =>
        rw [c3] at hX key
        exact Pair.sc (sc_mk hX) (sc_mk (key (tellX V.1 (trX I T)) (eqM_t (eqM_te _) (eqM_tr T)) rfl rfl t2 hR9)) rfl (rel_ft H T hT100 V.1)
      | false =>
        rw [c3] at hX key
        exact Pair.sc (sc_mk hX) (sc_mk (key (up2 (trX I T) 0 12 V.2.1) (eqM_t (eqM_la _) (eqM_tr T)) rfl rfl t2 hR9)) rfl (rel_ak H T hT100 V.2.1)
end SA1
