/-! the constructor of the reference -/
set_option maxHeartbeats 8000000 in
set_option maxRecDepth 20000 in
theorem ct_M (l : Launch) (dA : Nat → ClassId) (G : va_G) (ad : Nat → Nat) (sz : Nat) : Met l ⟨"TideDeskModel", "<init>", "()V"⟩ (Cond.code ⟨"TideDeskModel", "<init>", "()V"⟩ prog_14_method_1_code 2 none :: gt) (rmC 1 62 7519 20) (CtP dA G ad 12 12 (.int 0 :: .int 0 :: .int 0 :: .null :: .null :: .null :: .null :: .null :: .int 0 :: .null :: .null :: .null :: .null :: .null :: .null :: .null :: .null :: .double 0 :: .int 0 :: .null :: .null :: .null :: .null :: .null :: .null :: .null :: .int 0 :: .int 0 :: .int 0 :: .int 0 :: .null :: .double 0 :: .int 0 :: .int 0 :: .null :: .null :: .int 0 :: .int 0 :: .null :: .null :: .null :: .null :: .null :: .null :: .null :: .null :: .null :: .null :: .int 0 :: .int 0 :: .null :: .null :: .null :: .null :: .null :: .null :: .int 0 :: .int 0 :: .null :: .null :: .null :: .null :: .int 0 :: .null :: .null :: .null :: .null :: .null :: .null :: .null :: .null :: .int 0 :: .int 0 :: .int 0 :: .null :: .null :: .int 0 :: .int 0 :: .int 0 :: .null :: .null :: .null :: .null :: .null :: .null :: .null :: .null :: .int 0 :: .int 0 :: .int 0 :: .null :: []) [] sz) (CtQ dA G ad 12 [70, 71, 72, 73, 74, 75, 76, 77, 78, 79, 80, 81, 82, 83, 84, 85, 86, 87, 88, 89, 90, 91, 92, 93, 94, 95, 96, 97, 98, 99, 100, 101, 102, 103, 104, 105, 106, 107, 108, 109, 110, 111, 112, 113, 114, 115, 116, 117, 118, 119, 120, 121, 122, 123, 124, 125, 126, 127, 128, 129, 130, 131] sz) 62 7519 (CtA ad 12 sz) := by
  refine ctor_of (by decide) rfl rfl (Nat.le_of_ble_eq_true rfl) ?_
  intro p e s m args below meth c Q ls B hA fin hP hD hl
  have hl : lv_has ls 2 [(0, .ref (ad 12))] := hl
  have h0 : ls[0]? = some (.val (.ref (ad 12))) := lv_at hl 0 rfl
  have hS : va_S (CtA ad 12 sz) s.heap s.heap [] := va_S.rf
  refine it_obj B hl.1 h0 (by decide +kernel) (by decide +kernel) ⟨gt_in (t := 5) (o := 190) rfl rfl, gt_in (t := 1) (o := 23) rfl rfl, gt_in (t := 1) (o := 24) rfl rfl⟩ ⟨Nat.le_of_ble_eq_true rfl, Nat.le_of_ble_eq_true rfl⟩ ?_
  refine mc_0 B hA (Nat.le_of_ble_eq_true rfl) (Nat.le_of_ble_eq_true rfl) hP hD hS h0 (fun a1 H locs h9 hP hD hS => ?_)
  have g1 : ∀ i, i ∉ ([70, 71, 72, 73, 74, 75, 76] : List Nat) → a1 i = ad i := fun i hi => h9 i hi
  have e1 : a1 12 = ad 12 := h9 12 (by decide)
  rw [← e1] at h0 hl
  refine mc_1 B hA (Nat.le_of_ble_eq_true rfl) (Nat.le_of_ble_eq_true rfl) hP hD hS h0 (fun a2 H locs h9 hP hD hS => ?_)
  have g2 : ∀ i, i ∉ ([70, 71, 72, 73, 74, 75, 76, 77, 78, 79, 80, 81, 82, 83] : List Nat) → a2 i = ad i := ag_tr g1 h9
  have e2 : a2 12 = a1 12 := h9 12 (by decide)
  rw [← e2] at h0 hl
  refine mc_2 B hA (Nat.le_of_ble_eq_true rfl) (Nat.le_of_ble_eq_true rfl) hP hD hS h0 (fun a3 H locs h9 hP hD hS => ?_)
  have g3 : ∀ i, i ∉ ([70, 71, 72, 73, 74, 75, 76, 77, 78, 79, 80, 81, 82, 83, 84, 85, 86, 87, 88, 89] : List Nat) → a3 i = ad i := ag_tr g2 h9
  have e3 : a3 12 = a2 12 := h9 12 (by decide)
  rw [← e3] at h0 hl
  refine mc_3 B hA (Nat.le_of_ble_eq_true rfl) (Nat.le_of_ble_eq_true rfl) hP hD hS h0 (fun a4 H locs h9 hP hD hS => ?_)
  have g4 : ∀ i, i ∉ ([70, 71, 72, 73, 74, 75, 76, 77, 78, 79, 80, 81, 82, 83, 84, 85, 86, 87, 88, 89, 90, 91, 92, 93, 94] : List Nat) → a4 i = ad i := ag_tr g3 h9
  have e4 : a4 12 = a3 12 := h9 12 (by decide)
  rw [← e4] at h0 hl
  refine mc_4 B hA (Nat.le_of_ble_eq_true rfl) (Nat.le_of_ble_eq_true rfl) hP hD hS h0 (fun a5 H locs h9 hP hD hS => ?_)
  have g5 : ∀ i, i ∉ ([70, 71, 72, 73, 74, 75, 76, 77, 78, 79, 80, 81, 82, 83, 84, 85, 86, 87, 88, 89, 90, 91, 92, 93, 94, 95, 96, 97, 98, 99, 100, 101] : List Nat) → a5 i = ad i := ag_tr g4 h9
  have e5 : a5 12 = a4 12 := h9 12 (by decide)
  rw [← e5] at h0 hl
  refine mc_5 B hA (Nat.le_of_ble_eq_true rfl) (Nat.le_of_ble_eq_true rfl) hP hD hS h0 (fun a6 H locs h9 hP hD hS => ?_)
  have g6 : ∀ i, i ∉ ([70, 71, 72, 73, 74, 75, 76, 77, 78, 79, 80, 81, 82, 83, 84, 85, 86, 87, 88, 89, 90, 91, 92, 93, 94, 95, 96, 97, 98, 99, 100, 101, 102, 103, 104, 105, 106, 107, 108] : List Nat) → a6 i = ad i := ag_tr g5 h9
  have e6 : a6 12 = a5 12 := h9 12 (by decide)
  rw [← e6] at h0 hl
  refine mc_6 B hA (Nat.le_of_ble_eq_true rfl) (Nat.le_of_ble_eq_true rfl) hP hD hS h0 (fun a7 H locs h9 hP hD hS => ?_)
  have g7 : ∀ i, i ∉ ([70, 71, 72, 73, 74, 75, 76, 77, 78, 79, 80, 81, 82, 83, 84, 85, 86, 87, 88, 89, 90, 91, 92, 93, 94, 95, 96, 97, 98, 99, 100, 101, 102, 103, 104, 105, 106, 107, 108, 109, 110, 111, 112, 113, 114, 115] : List Nat) → a7 i = ad i := ag_tr g6 h9
  have e7 : a7 12 = a6 12 := h9 12 (by decide)
  rw [← e7] at h0 hl
  refine mc_7 B hA (Nat.le_of_ble_eq_true rfl) (Nat.le_of_ble_eq_true rfl) hP hD hS h0 (fun a8 H locs h9 hP hD hS => ?_)
  have g8 : ∀ i, i ∉ ([70, 71, 72, 73, 74, 75, 76, 77, 78, 79, 80, 81, 82, 83, 84, 85, 86, 87, 88, 89, 90, 91, 92, 93, 94, 95, 96, 97, 98, 99, 100, 101, 102, 103, 104, 105, 106, 107, 108, 109, 110, 111, 112, 113, 114, 115, 116, 117, 118, 119, 120] : List Nat) → a8 i = ad i := ag_tr g7 h9
  have e8 : a8 12 = a7 12 := h9 12 (by decide)
  rw [← e8] at h0 hl
  refine mc_8 B hA (Nat.le_of_ble_eq_true rfl) (Nat.le_of_ble_eq_true rfl) hP hD hS h0 (fun a9 H locs h9 hP hD hS => ?_)
  have g9 : ∀ i, i ∉ ([70, 71, 72, 73, 74, 75, 76, 77, 78, 79, 80, 81, 82, 83, 84, 85, 86, 87, 88, 89, 90, 91, 92, 93, 94, 95, 96, 97, 98, 99, 100, 101, 102, 103, 104, 105, 106, 107, 108, 109, 110, 111, 112, 113, 114, 115, 116, 117, 118, 119, 120, 121, 122, 123, 124, 125, 126, 127] : List Nat) → a9 i = ad i := ag_tr g8 h9
  have e9 : a9 12 = a8 12 := h9 12 (by decide)
  rw [← e9] at h0 hl
  refine mc_9 B hA (Nat.le_of_ble_eq_true rfl) (Nat.le_of_ble_eq_true rfl) hP hD hS h0 (fun a10 H locs h9 hP hD hS => ?_)
  have g10 : ∀ i, i ∉ ([70, 71, 72, 73, 74, 75, 76, 77, 78, 79, 80, 81, 82, 83, 84, 85, 86, 87, 88, 89, 90, 91, 92, 93, 94, 95, 96, 97, 98, 99, 100, 101, 102, 103, 104, 105, 106, 107, 108, 109, 110, 111, 112, 113, 114, 115, 116, 117, 118, 119, 120, 121, 122, 123, 124, 125, 126, 127, 128, 129, 130, 131] : List Nat) → a10 i = ad i := ag_tr g9 h9
  have e10 : a10 12 = a9 12 := h9 12 (by decide)
  rw [← e10] at h0 hl
  refine lv_iconst (n := 0) (v := 0) B.1 B.2.1 (by decide +kernel) (by decide) ?_
  refine lv_istore_n (k := 1) (i := 1) (lv' := [(1, .int 0), (0, .ref (a10 12))]) B.1 B.2.1 (by decide +kernel) rfl hl (by decide) rfl (fun ls hl => ?_)
  refine it_fill B pt_M_145 hP hD hS (j := 42) (a := a10 12) (q := a10 111) (i := 0) rfl rfl rfl (by decide) hl (fun H locs ls hP hD hS hl => ?_)
  refine it_fill B pt_M_145 hP hD hS (j := 42) (a := a10 12) (q := a10 111) (i := 1) rfl rfl rfl (by decide) hl (fun H locs ls hP hD hS hl => ?_)
  refine it_fill B pt_M_145 hP hD hS (j := 42) (a := a10 12) (q := a10 111) (i := 2) rfl rfl rfl (by decide) hl (fun H locs ls hP hD hS hl => ?_)
  refine it_fill B pt_M_145 hP hD hS (j := 42) (a := a10 12) (q := a10 111) (i := 3) rfl rfl rfl (by decide) hl (fun H locs ls hP hD hS hl => ?_)
  refine lv_iload_n (k := 1) (i := 1) B.1 B.2.1 (by decide +kernel) rfl (lv_at hl 0 rfl) ?_
  refine lv_iconst (n := 4) (v := 4) B.1 B.2.1 (by decide +kernel) (by decide) ?_
  refine lv_icmp_ge (off := 16) (tgt := 557) B.1 B.2.1 (by decide +kernel) (by decide) (fun _ => ?_) (fun z => absurd (Int32.le_refl 4) z)
  refine W.widen (k := 62) (n := 7519) (Nat.le_of_ble_eq_true rfl) (Nat.le_of_ble_eq_true rfl) ?_
  exact fin 557 ls a10 _ _ (by decide +kernel) g10 hP hD hS
