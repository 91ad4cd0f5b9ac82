/-! what leaves scratch: holds, pass -/
theorem Pair.sc {g : Gp} {mx mm : Nat} {As : List Value} {I I1 I2 : MI} {D D1 D2 : MD} {rX rM : Option Value} {n m tk fd h q sp ms np : Nat} (hX : ∀ sc sd, Con g SHc 20 mx (.ref 0 :: As) (ovX I sc) (ovD D sd) (Sc rX I1 D1)) (hM : ∀ sc sd, Con g SHc 20 mm (.ref 12 :: As) (ovX I1 sc) (ovD D1 sd) (Sc rM I2 D2)) (hr : rX = rM) (hR : RelP I2 D2 n m tk fd h q sp ms np) (ht : okO (isLg mx) rX := by exact True.intro) : Pair g mx mm As I D := by
  have h9 := hX I D
  rw [ov_id, od_id] at h9
  refine ⟨_, h9, ?_⟩
  rintro o J E ⟨rfl, sc, sd, rfl, rfl⟩
  refine ⟨ht, _, hM sc sd, ?_⟩
  rintro o' J' E' ⟨rfl, sc2, sd2, rfl, rfl⟩
  exact ⟨hr.symm, n, m, tk, fd, h, q, sp, ms, np, rel_ov hR sc2 sd2⟩
theorem rel_tr {I : MI} {D : MD} {n m tk fd h q sp ms np : Nat} (H : RelP I D n m tk fd h q sp ms np) (T : Tr) (hT : T.1 ≤ 100) : RelP (trM (trX I T) T) D n m tk fd h q sp ms np :=
  ⟨H.now, H.fin, H.dra, H.sur, H.cnt, H.gau, H.sho, H.wat, H.shp, ⟨H.tra.1, rfl, T.1, hT, rfl, rfl⟩, H.fle, H.rou, H.win, H.pas⟩
theorem WX_of {I : MI} {D : MD} {sp : Nat} (h : RWat I D sp) : WX I ∧ WM I := by
  obtain ⟨w1, w2, w3, w4, w5, w6, w7, w8, w9, w10, w11⟩ := h
  refine ⟨fun s hs => ?_, fun s hs => ?_, w10⟩
  · obtain ⟨c, h1, h2, h3⟩ := w11 s hs
    rw [w5, w6]
    exact ⟨c, h1, h2, fun j hj => (h3 j hj).1⟩
  · obtain ⟨c, h1, h2, -⟩ := w11 s hs
    exact ⟨c, h1, h2⟩
