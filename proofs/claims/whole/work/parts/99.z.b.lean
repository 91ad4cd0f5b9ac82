/-! the law from its entry on -/
theorem st_inst : ∀ q ∈ vwCl, ∃ n, Cond.instantiable q.1 n ∈ gt := by
  intro q hq
  simp only [vwCl, List.mem_cons, List.not_mem_nil, or_false] at hq
  rcases hq with rfl | rfl | rfl | rfl | rfl | rfl | rfl | rfl | rfl | rfl | rfl | rfl | rfl
  · exact ⟨2, gt_in (t := 1) (o := 26) rfl rfl⟩
  · exact ⟨6, gt_in (t := 2) (o := 99) rfl rfl⟩
  · exact ⟨15, gt_in (t := 1) (o := 81) rfl rfl⟩
  · exact ⟨17, gt_in (t := 2) (o := 155) rfl rfl⟩
  · exact ⟨4, gt_in (t := 2) (o := 30) rfl rfl⟩
  · exact ⟨11, gt_in (t := 1) (o := 223) rfl rfl⟩
  · exact ⟨10, gt_in (t := 1) (o := 145) rfl rfl⟩
  · exact ⟨10, gt_in (t := 1) (o := 41) rfl rfl⟩
  · exact ⟨11, gt_in (t := 2) (o := 55) rfl rfl⟩
  · exact ⟨8, gt_in (t := 1) (o := 186) rfl rfl⟩
  · exact ⟨6, gt_in (t := 2) (o := 125) rfl rfl⟩
  · exact ⟨14, gt_in (t := 1) (o := 18) rfl rfl⟩
  · exact ⟨91, gt_in (t := 5) (o := 186) rfl rfl⟩
theorem st_tys {s : State} {args : Array Value} (hts : ∀ w ∈ gt, w.before args s = true) : ∃ dA : Nat → ClassId, ∀ (k : Nat) (q : ClassId × FieldType), (tysOf dA)[k]? = some q → ArrOfT s q.1 q.2 ∧ va_RA s q.1 q.2 := by
  have h : ∀ t, t < 4 → ∃ cA, ArrOfT s cA (tyT t) ∧ va_RA s cA (tyT t) := by
    intro t ht
    have hw : Cond.arrayClass (tyT t) ∈ gt := by
      rcases (show t = 0 ∨ t = 1 ∨ t = 2 ∨ t = 3 by omega) with rfl | rfl | rfl | rfl
      · exact gt_in (t := 1) (o := 79) rfl rfl
      · exact gt_in (t := 1) (o := 141) rfl rfl
      · exact gt_in (t := 1) (o := 142) rfl rfl
      · exact gt_in (t := 1) (o := 143) rfl rfl
    obtain ⟨cA, kA, comp, h1, h2, h3⟩ := Cond.arrayClass_spec (hts _ hw)
    refine ⟨cA, fun n z => ⟨fun k h => (by cases h), kA, h2, comp, h3⟩, ?_⟩
    rcases (show t = 0 ∨ t = 1 ∨ t = 2 ∨ t = 3 by omega) with rfl | rfl | rfl | rfl <;> exact h1
  obtain ⟨c0, h0⟩ := h 0 (by decide)
  obtain ⟨c1, h1⟩ := h 1 (by decide)
  obtain ⟨c2, h2⟩ := h 2 (by decide)
  obtain ⟨c3, h3⟩ := h 3 (by decide)
  refine ⟨fun t => match t with
    | 0 => c0
    | 1 => c1
    | 2 => c2
    | _ => c3, fun k q hq => ?_⟩
  have hl := (List.getElem?_eq_some_iff.mp hq).1
  simp only [tysOf, List.length_cons, List.length_nil] at hl
  rcases (show k = 0 ∨ k = 1 ∨ k = 2 ∨ k = 3 by omega) with rfl | rfl | rfl | rfl <;> cases hq
  · exact h0
  · exact h1
  · exact h2
  · exact h3
set_option maxHeartbeats 8000000 in
set_option maxRecDepth 20000 in
theorem whole_start {p : Program} {e : Env} {s : State} {m : MethodId} {below : List Frame} {meth : Method} {c : Code} (l : Launch) {b L : Nat} {xs : Nat → Int32} (hL : L ≤ 3584) (C0 : lw_At p s m meth c b L xs) : W p l e room_1 s m #[Value.ref b] below meth c s.heap [] 0 0 (lw_Z below #[Value.ref b] s) (entryFrame m ([Value.ref b] : List Value).toArray 4) := by
  obtain ⟨hx, hb, hr, hml, hown, hts, hX, hbl, hlocks, hgv⟩ := id C0
  have htg : ∀ w ∈ gt, w.before #[Value.ref b] s = true := fun w hw => hts w (List.mem_filter.mp hw).1
  have hA : ∀ q : Nat, s.heap.size ≤ q → (fun q : Nat => s.heap.size ≤ q) q := fun _ h => h
  obtain ⟨G, hKc⟩ := st_cls htg st_inst
  obtain ⟨dA, hKt⟩ := st_tys htg
  have hK : va_K G vwCl (tysOf dA) s := ⟨hKc, hKt⟩
  have hNM : NwM s := fun a i x h hm => va_Nw.of rfl (hts _ hm)
  have hP : va_P G vwCl ([] ++ wsub (fun _ => b) dA []) s.heap := fun k q h => by simp [wsub] at h
  have hD : va_D (fun q : Nat => s.heap.size ≤ q) ([] ++ wsub (fun _ => b) dA []) := ⟨fun i j p q h => by simp [wsub] at h, fun k q h => by simp [wsub] at h⟩
  have hS : va_S (fun q : Nat => s.heap.size ≤ q) s.heap s.heap [] := va_S.rf
  have hl := lv_entry ([.ref b]) (n := 4) (Nat.le_of_ble_eq_true rfl)
  rw [lg_entry_eq]
  generalize (lg_sl ([.ref b]) ++ List.replicate (4 - (lg_sl ([.ref b])).length) Slot.unset).toArray = ls at hl ⊢
  have hl : lv_has ls 4 [(0, .ref b)] := hl
  have S : CallFix p m c code 4 s #[Value.ref b] gt "TideDeskLaw" := ⟨hx, hb, hml, hown, htg⟩
  refine mk_obj (own := "TideDeskLaw") (W0 := []) (cs := []) (ad := (fun _ => b)) (rest := []) S hK hNM hA hP hD hS hl.1 11 0 (by decide) (i1 := 7) (i2 := 9) (pc := 0) (pcC := 4) (by decide +kernel) (by decide +kernel) (by decide +kernel) (gt_in (t := 1) (o := 17) rfl rfl) (gt_in (t := 1) (o := 18) rfl rfl) (gt_in (t := 1) (o := 1) rfl rfl) tyX11 tyX11_ok (by exact rng (N := 14) rfl) (ct_X l dA G) (gt_in (t := 1) (o := 21) rfl rfl) (gt_in (t := 1) (o := 1) rfl rfl) (Or.inl (gt_in (t := 1) (o := 19) rfl rfl)) (gt_in (t := 1) (o := 20) rfl rfl) rfl (by decide +kernel) ⟨Nat.le_of_ble_eq_true rfl, Nat.le_of_ble_eq_true rfl⟩ (Nat.le_of_ble_eq_true rfl) (Nat.le_of_ble_eq_true rfl) (by decide) (fun st _ _ _ _ kk => kk) (by decide +kernel) (by decide) (Nat.le_of_ble_eq_true rfl) (fun a1 H locs hag hP hD hS => ?_)
  have hP : va_P G vwCl ([] ++ wsub a1 dA (0 :: 1 :: 2 :: 13 :: 14 :: 15 :: 16 :: 17 :: 18 :: 19 :: 20 :: 21 :: 3 :: 22 :: 23 :: 24 :: 25 :: 26 :: 27 :: 28 :: 29 :: 4 :: 30 :: 31 :: 32 :: 33 :: 34 :: 35 :: 5 :: 36 :: 37 :: 38 :: 39 :: 40 :: 41 :: 6 :: 42 :: 43 :: 44 :: 45 :: 46 :: 47 :: 48 :: 49 :: 7 :: 50 :: 51 :: 52 :: 53 :: 8 :: 54 :: 9 :: 55 :: 56 :: 57 :: 58 :: 59 :: 10 :: 60 :: 61 :: 11 :: 62 :: 63 :: 64 :: 65 :: 66 :: 67 :: 68 :: 69 :: [])) H := hP
  have hD : va_D (fun q : Nat => s.heap.size ≤ q) ([] ++ wsub a1 dA (0 :: 1 :: 2 :: 13 :: 14 :: 15 :: 16 :: 17 :: 18 :: 19 :: 20 :: 21 :: 3 :: 22 :: 23 :: 24 :: 25 :: 26 :: 27 :: 28 :: 29 :: 4 :: 30 :: 31 :: 32 :: 33 :: 34 :: 35 :: 5 :: 36 :: 37 :: 38 :: 39 :: 40 :: 41 :: 6 :: 42 :: 43 :: 44 :: 45 :: 46 :: 47 :: 48 :: 49 :: 7 :: 50 :: 51 :: 52 :: 53 :: 8 :: 54 :: 9 :: 55 :: 56 :: 57 :: 58 :: 59 :: 10 :: 60 :: 61 :: 11 :: 62 :: 63 :: 64 :: 65 :: 66 :: 67 :: 68 :: 69 :: [])) := hD
  have b9 : a1 999 = b := hag 999 (by decide)
  refine lv_astore_n (k := 1) (i := 1) (lv' := [(1, .ref (a1 0)), (0, .ref b)]) hx hb (by decide +kernel) rfl hl (by decide) rfl (fun ls hl => ?_)
  refine mk_obj (own := "TideDeskLaw") (W0 := []) (cs := (0 :: 1 :: 2 :: 13 :: 14 :: 15 :: 16 :: 17 :: 18 :: 19 :: 20 :: 21 :: 3 :: 22 :: 23 :: 24 :: 25 :: 26 :: 27 :: 28 :: 29 :: 4 :: 30 :: 31 :: 32 :: 33 :: 34 :: 35 :: 5 :: 36 :: 37 :: 38 :: 39 :: 40 :: 41 :: 6 :: 42 :: 43 :: 44 :: 45 :: 46 :: 47 :: 48 :: 49 :: 7 :: 50 :: 51 :: 52 :: 53 :: 8 :: 54 :: 9 :: 55 :: 56 :: 57 :: 58 :: 59 :: 10 :: 60 :: 61 :: 11 :: 62 :: 63 :: 64 :: 65 :: 66 :: 67 :: 68 :: 69 :: [])) (ad := a1) (rest := []) S hK hNM hA hP hD hS hl.1 12 12 (by decide) (i1 := 10) (i2 := 12) (pc := 8) (pcC := 12) (by decide +kernel) (by decide +kernel) (by decide +kernel) (gt_in (t := 5) (o := 185) rfl rfl) (gt_in (t := 5) (o := 186) rfl rfl) (gt_in (t := 1) (o := 13) rfl rfl) tyX12 tyX12_ok (by exact rng (N := 91) rfl) (ct_M l dA G) (gt_in (t := 5) (o := 189) rfl rfl) (gt_in (t := 1) (o := 13) rfl rfl) (Or.inl (gt_in (t := 5) (o := 187) rfl rfl)) (gt_in (t := 5) (o := 188) rfl rfl) rfl (by decide +kernel) ⟨Nat.le_of_ble_eq_true rfl, Nat.le_of_ble_eq_true rfl⟩ (Nat.le_of_ble_eq_true rfl) (Nat.le_of_ble_eq_true rfl) (by decide) (fun st _ _ _ _ kk => kk) (by decide +kernel) (by decide) (Nat.le_of_ble_eq_true rfl) (fun a2 H locs hag hP hD hS => ?_)
  have hP : va_P G vwCl (wsub a2 dA (0 :: 1 :: 2 :: 13 :: 14 :: 15 :: 16 :: 17 :: 18 :: 19 :: 20 :: 21 :: 3 :: 22 :: 23 :: 24 :: 25 :: 26 :: 27 :: 28 :: 29 :: 4 :: 30 :: 31 :: 32 :: 33 :: 34 :: 35 :: 5 :: 36 :: 37 :: 38 :: 39 :: 40 :: 41 :: 6 :: 42 :: 43 :: 44 :: 45 :: 46 :: 47 :: 48 :: 49 :: 7 :: 50 :: 51 :: 52 :: 53 :: 8 :: 54 :: 9 :: 55 :: 56 :: 57 :: 58 :: 59 :: 10 :: 60 :: 61 :: 11 :: 62 :: 63 :: 64 :: 65 :: 66 :: 67 :: 68 :: 69 :: 12 :: 70 :: 71 :: 72 :: 73 :: 74 :: 75 :: 76 :: 77 :: 78 :: 79 :: 80 :: 81 :: 82 :: 83 :: 84 :: 85 :: 86 :: 87 :: 88 :: 89 :: 90 :: 91 :: 92 :: 93 :: 94 :: 95 :: 96 :: 97 :: 98 :: 99 :: 100 :: 101 :: 102 :: 103 :: 104 :: 105 :: 106 :: 107 :: 108 :: 109 :: 110 :: 111 :: 112 :: 113 :: 114 :: 115 :: 116 :: 117 :: 118 :: 119 :: 120 :: 121 :: 122 :: 123 :: 124 :: 125 :: 126 :: 127 :: 128 :: 129 :: 130 :: 131 :: [])) H := hP
  have hD : va_D (fun q : Nat => s.heap.size ≤ q) (wsub a2 dA (0 :: 1 :: 2 :: 13 :: 14 :: 15 :: 16 :: 17 :: 18 :: 19 :: 20 :: 21 :: 3 :: 22 :: 23 :: 24 :: 25 :: 26 :: 27 :: 28 :: 29 :: 4 :: 30 :: 31 :: 32 :: 33 :: 34 :: 35 :: 5 :: 36 :: 37 :: 38 :: 39 :: 40 :: 41 :: 6 :: 42 :: 43 :: 44 :: 45 :: 46 :: 47 :: 48 :: 49 :: 7 :: 50 :: 51 :: 52 :: 53 :: 8 :: 54 :: 9 :: 55 :: 56 :: 57 :: 58 :: 59 :: 10 :: 60 :: 61 :: 11 :: 62 :: 63 :: 64 :: 65 :: 66 :: 67 :: 68 :: 69 :: 12 :: 70 :: 71 :: 72 :: 73 :: 74 :: 75 :: 76 :: 77 :: 78 :: 79 :: 80 :: 81 :: 82 :: 83 :: 84 :: 85 :: 86 :: 87 :: 88 :: 89 :: 90 :: 91 :: 92 :: 93 :: 94 :: 95 :: 96 :: 97 :: 98 :: 99 :: 100 :: 101 :: 102 :: 103 :: 104 :: 105 :: 106 :: 107 :: 108 :: 109 :: 110 :: 111 :: 112 :: 113 :: 114 :: 115 :: 116 :: 117 :: 118 :: 119 :: 120 :: 121 :: 122 :: 123 :: 124 :: 125 :: 126 :: 127 :: 128 :: 129 :: 130 :: 131 :: [])) := hD
  have e0 : a2 0 = a1 0 := hag 0 (by decide)
  have e9 : a2 999 = b := (hag 999 (by decide)).trans b9
  refine lv_astore_n (k := 2) (i := 2) (lv' := [(2, .ref (a2 12)), (1, .ref (a1 0)), (0, .ref b)]) hx hb (by decide +kernel) rfl hl (by decide) rfl (fun ls hl => ?_)
  refine lv_iconst (n := 0) (v := 0) hx hb (by decide +kernel) (by decide) ?_
  refine lv_istore_n (k := 3) (i := 3) (lv' := [(3, .int 0), (2, .ref (a2 12)), (1, .ref (a1 0)), (0, .ref b)]) hx hb (by decide +kernel) rfl hl (by decide) rfl (fun ls hl => ?_)
  obtain ⟨hPw, hAd⟩ := wsub_wld (cs := (0 :: 1 :: 2 :: 13 :: 14 :: 15 :: 16 :: 17 :: 18 :: 19 :: 20 :: 21 :: 3 :: 22 :: 23 :: 24 :: 25 :: 26 :: 27 :: 28 :: 29 :: 4 :: 30 :: 31 :: 32 :: 33 :: 34 :: 35 :: 5 :: 36 :: 37 :: 38 :: 39 :: 40 :: 41 :: 6 :: 42 :: 43 :: 44 :: 45 :: 46 :: 47 :: 48 :: 49 :: 7 :: 50 :: 51 :: 52 :: 53 :: 8 :: 54 :: 9 :: 55 :: 56 :: 57 :: 58 :: 59 :: 10 :: 60 :: 61 :: 11 :: 62 :: 63 :: 64 :: 65 :: 66 :: 67 :: 68 :: 69 :: 12 :: 70 :: 71 :: 72 :: 73 :: 74 :: 75 :: 76 :: 77 :: 78 :: 79 :: 80 :: 81 :: 82 :: 83 :: 84 :: 85 :: 86 :: 87 :: 88 :: 89 :: 90 :: 91 :: 92 :: 93 :: 94 :: 95 :: 96 :: 97 :: 98 :: 99 :: 100 :: 101 :: 102 :: 103 :: 104 :: 105 :: 106 :: 107 :: 108 :: 109 :: 110 :: 111 :: 112 :: 113 :: 114 :: 115 :: 116 :: 117 :: 118 :: 119 :: 120 :: 121 :: 122 :: 123 :: 124 :: 125 :: 126 :: 127 :: 128 :: 129 :: 130 :: 131 :: [])) (by decide +kernel) hP hD
  have h9 : lv_has ls 4 [(0, .ref b), (1, .ref (a1 0)), (2, .ref (a2 12)), (3, .int 0)] := lv_sub hl [3, 2, 1, 0] rfl
  have hl2 : lv_has ls 4 ((lvL 0).map (cq a2)) := by
    show lv_has ls 4 [(0, .ref (a2 999)), (1, .ref (a2 0)), (2, .ref (a2 12)), (3, .int 0)]
    rw [e9, e0]
    exact h9
  exact law_head hL C0 hK hAd e9 rel0 (Nat.le_of_ble_eq_true rfl) (Nat.le_of_ble_eq_true rfl) hl2 hPw hS
