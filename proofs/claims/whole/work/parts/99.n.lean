/-! plan -/
section SB2
variable (g : Gp) (I : MI) (D : MD)
theorem pkp_eq {I : MI} {D : MD} {n m tk fd h q sp ms np : Nat} (H : RelP I D n m tk fd h q sp ms np) (b N : Nat) : pkX I n m tk fd b N = pkM I n m tk fd b N := by
  obtain ⟨-, -, b1, b2, b3, -⟩ := id H.pas
  obtain ⟨a1, a2, a3, -⟩ := id H.rou
  unfold pkX pkM rtX rtM
  rw [b1, b2, b3, a1, a2, a3, H.sho.2.1, H.now.1]
  have e1 : (fun p => askX I 3 5 (I 123 p)) = (fun p => askM I 3 5 (I 123 p)) := by
    funext p
    rw [ask_eq H.shp]
  have e2 : (fun p => bdX I (I 123 p)) = (fun p => bdM I (I 123 p)) := by
    funext p
    rw [bd_eq H.shp]
  have e3 : (fun p => (askX I 2 5 (I 123 p)).2.1) = (fun p => (askM I 2 5 (I 123 p)).2.1) := by
    funext p
    rw [ask_eq H.shp]
  have e4 : (fun p q => minX I n m tk fd b (I 124 p).toNatClampNeg (I 123 p) (nI q) (I 12 0)) = (fun p q => minM I n m tk fd b (I 124 p).toNatClampNeg (I 123 p) (nI q)) := by
    funext p q
    rw [min_eq H]
  have e5 : (fun st pp p => frG (I 118) (I 92) (I 119) (I 117) (I 124) st pp (I 124 p).toNatClampNeg N (askX I 2 5 (I 123 p)).2.1) = (fun st pp p => frG (I 118) (I 92) (I 119) (I 117) (I 124) st pp (I 124 p).toNatClampNeg N (askM I 2 5 (I 123 p)).2.1) := by
    funext st pp p
    rw [ask_eq H.shp]
  rw [e1, e2, e3, e4, e5]
theorem pkp_c {J I : MI} (e : eqM J I) (n m tk fd b N : Nat) : pkM J n m tk fd b N = pkM I n m tk fd b N := by
  unfold pkM rtM
  rw [e.q_passShip, e.q_passRoute, e.q_passFrom, e.q_legShoal, e.q_locks, e.q_legDistance, e.q_legs]
  have e1 : (fun p => askM J 3 5 (I 123 p)) = (fun p => askM I 3 5 (I 123 p)) := by
    funext p
    rw [askM_c e]
  have e2 : (fun p => bdM J (I 123 p)) = (fun p => bdM I (I 123 p)) := by
    funext p
    rw [bdM_c e]
  have e3 : (fun p => (askM J 2 5 (I 123 p)).2.1) = (fun p => (askM I 2 5 (I 123 p)).2.1) := by
    funext p
    rw [askM_c e]
  have e4 : (fun p q => minM J n m tk fd b (I 124 p).toNatClampNeg (I 123 p) (nI q)) = (fun p q => minM I n m tk fd b (I 124 p).toNatClampNeg (I 123 p) (nI q)) := by
    funext p q
    rw [minM_c e]
  have e5 : (fun st pp p => frG (I 118) (I 92) (I 119) (I 117) (I 124) st pp (I 124 p).toNatClampNeg N (askM J 2 5 (I 123 p)).2.1) = (fun st pp p => frG (I 118) (I 92) (I 119) (I 117) (I 124) st pp (I 124 p).toNatClampNeg N (askM I 2 5 (I 123 p)).2.1) := by
    funext st pp p
    rw [askM_c e]
  rw [e1, e2, e3, e4, e5]
theorem pa_eq {I : MI} {D : MD} {n m tk fd h q sp ms np : Nat} (H : RelP I D n m tk fd h q sp ms np) (b N c : Nat) : paX I n m tk fd b N (I 129) c = paM I n m tk fd b N c := by
  obtain ⟨-, -, -, -, -, b4, b5, b6, -⟩ := id H.pas
  unfold paX paM
  rw [pkp_eq H, b4, b5, b6, H.tra.2.1]
  show paN _ _ _ (I 126, I 128, I 129, (I 1 0, I 1 1), (0, I 109), 0) c = paN _ _ _ (I 126, I 128, I 129, (I 12 2, I 12 1), (0, I 109), 0) c
  rw [H.fin.1, H.fin.2]
theorem pa_c {J I : MI} (e : eqM J I) (e1 : J 126 = I 126) (e2 : J 128 = I 128) (e3 : J 129 = I 129) (e4 : J 12 2 = I 12 2) (e5 : J 12 1 = I 12 1) (e6 : J 109 = I 109) (n m tk fd b N c : Nat) : paM J n m tk fd b N c = paM I n m tk fd b N c := by
  unfold paM
  rw [pkp_c e, e1, e2, e3, e6, e.q_since]
  show paN _ _ _ (I 126, I 128, I 129, (J 12 2, J 12 1), (0, I 109), 0) c = paN _ _ _ (I 126, I 128, I 129, (I 12 2, I 12 1), (0, I 109), 0) c
  rw [e4, e5]
theorem eqM_ps {I : MI} (wt st co : Nat → Int32) (F : Fi) (T : Tr) : eqM (trX (psX I wt st co F) T) I := ⟨rfl, rfl, rfl, rfl, rfl, rfl, rfl, rfl, rfl, rfl, rfl, rfl, rfl, rfl, rfl, rfl, rfl, rfl, rfl, rfl, rfl, rfl, rfl, rfl, rfl, rfl, rfl, rfl, rfl, rfl, rfl, rfl, rfl, rfl, rfl, rfl, rfl, rfl, rfl, rfl⟩
theorem rel_ps {I : MI} {D : MD} {n m tk fd h q sp ms np : Nat} (H : RelP I D n m tk fd h q sp ms np) (wt st co pp : Nat → Int32) (F : Fi) (T : Tr) (hT : T.1 ≤ 100) (hW : WS np wt st pp) (hC : HC (psX I wt st co F) pp np) : RelP (trM (psM (trX (psX I wt st co F) T) wt st pp F) T) D n m tk fd h q sp ms np := by
  obtain ⟨b0, b00, b1, b2, b3, b4, b5, b6, b7, b8, b9, b10, b11, b12, b13⟩ := H.pas
  exact ⟨H.now, ⟨rfl, rfl⟩, H.dra, H.sur, H.cnt, H.gau, H.sho, H.wat, H.shp, ⟨H.tra.1, rfl, T.1, hT, rfl, rfl⟩, H.fle, H.rou, H.win, ⟨b0, b00, b1, b2, b3, b4, rfl, rfl, hW, hC, b9, b10, b11, b12, b13⟩⟩
theorem p_plan (hr : Rel I D) : Pair g 127 238 [] I D := by
  obtain ⟨n, m, tk, fd, h, q, sp, ms, np, H⟩ := hr
  obtain ⟨hms, t1, t2, -, -, -, -, -, -, -, hP, hR9, -⟩ := id H.shp
  obtain ⟨hPX, hPM, b1, b2, b3, b4, b5, b6, b7, b8, b9, b10, b11, b12, b13⟩ := id H.pas
  obtain ⟨wX, wM⟩ := WX_of H.wat
  have hX := c_X_plan g 3 I D H.cnt.1 H.rou.2.2.2.2.1 wX hms hP hPX (I 129) b8 I D
  rw [ov_id, od_id, pa_eq H] at hX
  have hM := fun J a1 a2 a3 a4 a5 a6 a7 sc sd => c_M_plan g 4 (n := n) (m := m) (tk := tk) (fd := fd) (b := h + q) (h := h) (ms := ms) (np := np) J D a1 a2 a3 a4 hms (fun j => (I 108 j).toNatClampNeg) a5 a6 a7 sc sd
  have key : ∀ J, eqM J I → J 126 = I 126 → J 128 = I 128 → J 129 = I 129 → J 12 2 = I 12 2 → J 12 1 = I 12 1 → J 109 = I 109 → KM J n m tk fd (h + q) h → RM J → WM J → LKM J → rkOk (J 103) (fun j => J 107 (2 * j)) (fun j => J 107 (2 * j + 1)) (fun j => (I 108 j).toNatClampNeg) ms → PM J np ms → WS np (J 126) (J 128) (J 129) → ∀ sc sd, Con g SHc 20 238 [.ref 12] (ovX J sc) (ovD D sd) (plM J D np (paM I n m tk fd (h + q) np 40)) := by
    intro J e e1 e2 e3 e4 e5 e6 a1 a2 a3 a4 a5 a6 a7 sc sd
    have h9 := hM J a1 a2 a3 a4 a5 a6 a7 sc sd
    rw [pa_c e e1 e2 e3 e4 e5 e6] at h9
    exact h9
  generalize paM I n m tk fd (h + q) np 40 = S at hX key
  refine ⟨_, hX, ?_⟩
  rintro o J E ⟨sc, sd, rfl, ⟨hf, rfl, rfl⟩ | ⟨hf, co, rfl, rfl, hC⟩⟩
  · rw [H.fin.1] at hf
    refine ⟨True.intro, _, key I (eqM_r I) rfl rfl rfl rfl rfl rfl H.cnt.2.1 H.rou.2.2.2.2.2.1 wM H.sho.2.2.2.2.2.2.2 hR9 hPM b7 sc sd, ?_⟩
    rintro o' J' E' ⟨sc2, sd2, rfl, ⟨-, rfl, rfl⟩ | ⟨hf', -⟩⟩
    · exact ⟨rfl, n, m, tk, fd, h, q, sp, ms, np, rel_ov H sc2 sd2⟩
    · exact absurd hf hf'
  · rw [H.fin.1] at hf
    refine ⟨True.intro, _, key (trX (psX I S.1 S.2.1 co S.2.2.2.1) S.2.2.2.2.1) (eqM_ps _ _ _ _ _) rfl rfl rfl rfl rfl rfl H.cnt.2.1 H.rou.2.2.2.2.2.1 wM H.sho.2.2.2.2.2.2.2 hR9 hPM b7 sc sd, ?_⟩
    rintro o' J' E' ⟨sc2, sd2, rfl, ⟨hf', -⟩ | ⟨-, rfl, rfl, hW, hT⟩⟩
    · exact absurd hf' hf
    · exact ⟨rfl, n, m, tk, fd, h, q, sp, ms, np, rel_ov (rel_ps H S.1 S.2.1 co S.2.2.1 S.2.2.2.1 S.2.2.2.2.1 hT hW hC) sc2 sd2⟩
end SB2
