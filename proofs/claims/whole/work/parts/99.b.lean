/-! pass -/
section SA0
variable (g : Gp) (I : MI) (D : MD)
theorem rel_hl {I : MI} {D : MD} {n m tk fd h q sp ms np : Nat} (H : RelP I D n m tk fd h q sp ms np) (T : Tr) (hT : T.1 ≤ 100) (c : Nat) : RelP (trM (hlM (trX (hlX I c) T) c) T) D n m tk fd h q sp ms np := by
  obtain ⟨b0, b00, b1, b2, b3, b4, b5, b6, b7, b8, b9, b10, b11, b12, b13⟩ := H.pas
  exact ⟨H.now, H.fin, H.dra, H.sur, H.cnt, H.gau, H.sho, H.wat, H.shp, ⟨H.tra.1, rfl, T.1, hT, rfl, rfl⟩, H.fle, H.rou, H.win, ⟨b0, b00, b1, b2, b3, b4, b5, b6, b7, b8, b9, b10, b11, rfl, by show I 11 14 + 1 = I 12 88 + 1; rw [b13]⟩⟩
theorem rel_hf {I : MI} {D : MD} {n m tk fd h q sp ms np : Nat} (H : RelP I D n m tk fd h q sp ms np) (T : Tr) (hT : T.1 ≤ 100) (c : Nat) (f : Int32) : RelP (tellM f (trM (hlM (tellX f (trX (hlX I c) T)) c) T)) D n m tk fd h q sp ms np := by
  obtain ⟨b0, b00, b1, b2, b3, b4, b5, b6, b7, b8, b9, b10, b11, b12, b13⟩ := H.pas
  exact ⟨H.now, ⟨by show I 1 0 + 1 = I 12 2 + 1; rw [H.fin.1], rfl⟩, H.dra, H.sur, H.cnt, H.gau, H.sho, H.wat, H.shp, ⟨H.tra.1, rfl, T.1, hT, rfl, rfl⟩, H.fle, H.rou, H.win, ⟨b0, b00, b1, b2, b3, b4, b5, b6, b7, b8, b9, b10, b11, rfl, by show I 11 14 + 1 = I 12 88 + 1; rw [b13]⟩⟩
theorem eqM_hl {I : MI} (c : Nat) : eqM (hlX I c) I := ⟨rfl, rfl, rfl, rfl, rfl, rfl, rfl, rfl, rfl, rfl, rfl, rfl, rfl, rfl, rfl, rfl, rfl, rfl, rfl, rfl, rfl, rfl, rfl, rfl, rfl, rfl, rfl, rfl, rfl, rfl, rfl, rfl, rfl, rfl, rfl, rfl, rfl, rfl, rfl, rfl⟩
theorem p_pass (hr : Rel I D) (p : Int32) : Pair g 138 247 [.int p] I D := by
  obtain ⟨n, m, tk, fd, h, q, sp, ms, np, H⟩ := hr
  obtain ⟨hms, t1, t2, -, -, -, -, -, -, -, hP, hR9, -⟩ := id H.shp
  obtain ⟨hPX, hPM, b1, b2, b3, b4, b5, b6, b7, b8, b9, b10, b11, b12, b13⟩ := id H.pas
  have hX := fun sc sd => c_X_pass g 4 I D H.rou.2.2.2.2.1 hms hP hPX b9 b11 p sc sd
  have hM := fun J a1 a2 a3 a4 a5 sc sd => c_M_pass g 14 (ms := ms) (np := np) J D a1 a2 hms (fun j => (I 108 j).toNatClampNeg) a3 a4 a5 p sc sd
  unfold rtX at hX
  unfold rtM at hM
  rw [H.fin.1, gt_eq H, b1, b2, H.tra.2.1] at hX
  cases c1 : ix p (nI np) with
  | false =>
    rw [c1] at hX hM
    exact Pair.sc hX (hM I H.rou.2.2.2.2.2.1 H.sho.2.2.2.2.2.2.2 hR9 hPM b10) rfl H
  | true =>
    cases c2 : decide (3000 ≤ I 12 2) with
    | true =>
      rw [c1, c2] at hX
      have hM := hM I H.rou.2.2.2.2.2.1 H.sho.2.2.2.2.2.2.2 hR9 hPM b10
      rw [c1, c2] at hM
      exact Pair.sc hX hM rfl H
    | false =>
      rw [c1, c2] at hX
      have key : ∀ J, eqM J I → (J 12 2 = I 12 2) → (J 109 = I 109) → RM J → LKM J → rkOk (J 103) (fun j => J 107 (2 * j)) (fun j => J 107 (2 * j + 1)) (fun j => (I 108 j).toNatClampNeg) ms → PM J np ms → (J 131 = fun _ => 0) → ∀ sc sd, Con g SHc 20 247 [.ref 12, .int p] (ovX J sc) (ovD D sd) (Sc (some (.int (pzF (gtM I (I 123 p.toNatClampNeg) (I 124 p.toNatClampNeg).toNatClampNeg).1))) (tlM (gtM I (I 123 p.toNatClampNeg) (I 124 p.toNatClampNeg).toNatClampNeg).1 (trM (hlM J (gtM I (I 123 p.toNatClampNeg) (I 124 p.toNatClampNeg).toNatClampNeg).2.1) (begsT (0, I 109) (gtM I (I 123 p.toNatClampNeg) (I 124 p.toNatClampNeg).toNatClampNeg).2.2))) D) := by
        intro J e k1 k2 a1 a2 a3 a4 a5 sc sd
        have h9 := hM J a1 a2 a3 a4 a5 sc sd
        rw [k1, k2, e.q_passShip, e.q_passRoute, gtM_c e, c1, c2] at h9
        exact h9
      generalize gtM I (I 123 p.toNatClampNeg) (I 124 p.toNatClampNeg).toNatClampNeg = V at hX key
      obtain ⟨T, hT⟩ : ∃ T, T = begsT (0, I 109) V.2.2 := ⟨_, rfl⟩
      have hT100 : T.1 ≤ 100 := by rw [hT]; exact begsT_le _ (Nat.zero_le _)
      rw [← hT] at hX key
      by_cases c3 : V.1 = 0
      · have eX : ∀ J, tlX V.1 J = J := fun J => by unfold tlX; rw [if_pos c3]
        have eM : ∀ J, tlM V.1 J = J := fun J => by unfold tlM; rw [if_pos c3]
        rw [eX] at hX
        have hM := key (trX (hlX I V.2.1) T) (eqM_t (eqM_tr T) (eqM_hl _)) rfl rfl H.rou.2.2.2.2.2.1 H.sho.2.2.2.2.2.2.2 hR9 hPM b10
        rw [eM] at hM
        exact Pair.sc hX hM rfl (rel_hl H T hT100 V.2.1)
      · have eX : ∀ J, tlX V.1 J = tellX V.1 J := fun J => by unfold tlX; rw [if_neg c3]
        have eM : ∀ J, tlM V.1 J = tellM V.1 J := fun J => by unfold tlM; rw [if_neg c3]
        rw [eX] at hX
        have hM := key (tellX V.1 (trX (hlX I V.2.1) T)) (eqM_t (eqM_te _) (eqM_t (eqM_tr T) (eqM_hl _))) rfl rfl H.rou.2.2.2.2.2.1 H.sho.2.2.2.2.2.2.2 hR9 hPM b10
        rw [eM] at hM
        exact Pair.sc hX hM rfl (rel_hf H T hT100 V.2.1 V.1)
end SA0
