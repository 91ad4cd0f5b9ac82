/-! holds, pass -/
theorem rel_ft {I : MI} {D : MD} {n m tk fd h q sp ms np : Nat} (H : RelP I D n m tk fd h q sp ms np) (T : Tr) (hT : T.1 ≤ 100) (f : Int32) : RelP (tellM f (trM (tellX f (trX I T)) T)) D n m tk fd h q sp ms np :=
  ⟨H.now, ⟨by show I 1 0 + 1 = I 12 2 + 1; rw [H.fin.1], rfl⟩, H.dra, H.sur, H.cnt, H.gau, H.sho, H.wat, H.shp, ⟨H.tra.1, rfl, T.1, hT, rfl, rfl⟩, H.fle, H.rou, H.win, H.pas⟩
section S99
variable (g : Gp) (I : MI) (D : MD)
theorem p_holds (hr : Rel I D) (s rt mi : Int32) : Pair g 115 230 [.int s, .int rt, .int mi] I D := by
  obtain ⟨n, m, tk, fd, h, q, sp, ms, np, H⟩ := hr
  obtain ⟨hms, t1, t2, -, -, -, -, -, -, -, hP, hR9, -⟩ := id H.shp
  obtain ⟨wX, wM⟩ := WX_of H.wat
  have hX := fun sc sd => c_X_holds g 5 I D H.cnt.1 H.rou.2.2.2.2.1 wX hms t1 hP s rt mi sc sd
  have hM := fun J b1 b2 b3 b4 b5 sc sd => c_M_holds g 5 (n := n) (m := m) (tk := tk) (fd := fd) (b := h + q) (h := h) J D b1 b2 b3 hms b4 (fun j => (I 108 j).toNatClampNeg) b5 s rt mi sc sd
  rw [H.now.1, H.fin.1, min_eq H, bd_eq H.shp, H.tra.2.1] at hX
  cases c1 : hlOk ms s rt mi with
  | false =>
    rw [c1] at hX hM
    exact Pair.sc hX (hM I H.cnt.2.1 H.rou.2.2.2.2.2.1 wM t2 hR9) rfl H
  | true =>
    cases c2 : decide (3000 ≤ I 12 2) with
    | true =>
      rw [c1, c2] at hX
      have hM := hM I H.cnt.2.1 H.rou.2.2.2.2.2.1 wM t2 hR9
      rw [c1, c2] at hM
      exact Pair.sc hX hM rfl H
    | false =>
      rw [c1, c2] at hX
      obtain ⟨T, hT⟩ : ∃ T, T = begsT (0, I 109) (bdM I s) := ⟨_, rfl⟩
      have hT100 : T.1 ≤ 100 := by rw [hT]; exact begsT_le _ (Nat.zero_le _)
      rw [← hT] at hX
      have key : ∀ J, eqM J I → (J 12 2 = I 12 2) → (J 109 = I 109) → KM J n m tk fd (h + q) h → RM J → WM J → J 12 49 = nI ms → rkOk (J 103) (fun j => J 107 (2 * j)) (fun j => J 107 (2 * j + 1)) (fun j => (I 108 j).toNatClampNeg) ms → ∀ sc sd, Con g SHc 20 230 [.ref 12, .int s, .int rt, .int mi] (ovX J sc) (ovD D sd) (Sc (some (.int (minM I n m tk fd (h + q) rt.toNatClampNeg s mi))) (tellAM (minM I n m tk fd (h + q) rt.toNatClampNeg s mi) (trM J T)) D) := by
        intro J e k1 k2 b1 b2 b3 b4 b5 sc sd
        have h9 := hM J b1 b2 b3 b4 b5 sc sd
        rw [k1, k2, minM_c e, bdM_c e, c1, c2, ← hT] at h9
        exact h9
      generalize minM I n m tk fd (h + q) rt.toNatClampNeg s mi = A at hX key
      by_cases c3 : A < -10
      · have eX : ∀ J, tellA A J = tellX (-10 - A) J := fun J => by unfold tellA; rw [if_pos c3]
        have eM : ∀ J, tellAM A J = tellM (-10 - A) J := fun J => by unfold tellAM; rw [if_pos c3]
        rw [eX] at hX
        have hM := key (tellX (-10 - A) (trX I T)) (eqM_t (eqM_te _) (eqM_tr T)) rfl rfl H.cnt.2.1 H.rou.2.2.2.2.2.1 wM t2 hR9
        rw [eM] at hM
        exact Pair.sc hX hM rfl (rel_ft H T hT100 (-10 - A))
      · have eX : ∀ J, tellA A J = J := fun J => by unfold tellA; rw [if_neg c3]
        have eM : ∀ J, tellAM A J = J := fun J => by unfold tellAM; rw [if_neg c3]
        rw [eX] at hX
        have hM := key (trX I T) (eqM_tr T) rfl rfl H.cnt.2.1 H.rou.2.2.2.2.2.1 wM t2 hR9
        rw [eM] at hM
        exact Pair.sc hX hM rfl (rel_tr H T hT100)
end S99
