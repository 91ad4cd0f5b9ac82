/-! the constructor of the reference -/
theorem it_fill {p : Program} {l : Launch} {e : Env} {R : Room} {s : State} {m : MethodId} {args : Array Value} {below : List Frame} {meth : Method} {c : Code} {cells slots : Nat} {Q : State → Prop} {H : Heap} {locs : List Loc} {ls : Array Slot} {dA : Nat → ClassId} {G : va_G} {A : Nat → Prop} {H0 : Heap} (B : CB p s m meth c args prog_14_method_1_code 2 dA G 12) (hF : PtF 12 60 145 (.array .int)) {ws : va_W} (hP : va_P G vwCl ws H) (hD : va_D A ws) (hS : va_S A H0 H locs) {j a q : Nat} {fs : List Value} {f : Nat → Int32} (he0 : ws[0]? = some (a, .inr (12, fs))) (hq : fs[60]? = some (.ref q)) (he : ws[j]? = some (q, .inl (dA 0, 4, .inl f))) {i : Nat} (hi : i < 4) (hl : lv_has ls 2 [(1, .int (nI i)), (0, .ref a)])
    (kk : ∀ H1 locs1 ls1, va_P G vwCl (ws.set j (q, .inl (dA 0, 4, .inl (upd f i (-1))))) H1 → va_D A (ws.set j (q, .inl (dA 0, 4, .inl (upd f i (-1))))) → va_S A H0 H1 locs1 → lv_has ls1 2 [(1, .int (nI (i + 1))), (0, .ref a)] → W p l e R s m args below meth c H1 locs1 cells slots Q (F0 m 539 ls1 [])) : W p l e R s m args below meth c H locs cells slots Q (F0 m 539 ls []) := by
  obtain ⟨hx, hb, hml, hown, hts, hK, hin, hNM⟩ := id B
  obtain ⟨ha, hk, ⟨t, o, hw⟩, hdc, hd⟩ := hF
  refine lv_iload_n (k := 1) (i := 1) hx hb (by decide +kernel) rfl (lv_at hl 0 rfl) ?_
  refine lv_iconst (n := 4) (v := 4) hx hb (by decide +kernel) (by decide) ?_
  refine lv_icmp_ge (off := 16) (tgt := 557) hx hb (by decide +kernel) (by decide) (fun z => absurd z (i32_nle.mpr (show nI i < nI 4 from by rw [i32_lt, nI_toInt (by omega), nI_toInt (by omega)]; omega))) (fun _ => ?_)
  refine lv_aload_n (k := 0) (i := 0) hx hb (by decide +kernel) rfl (lv_at hl 1 rfl) ?_
  refine va_get (D := G) (ci := 12) (C := (cT 12).1) (T := (cT 12).2.1) (N := (cT 12).2.2) (index := 145) hx hb hts (cT_ok ha).1 hown hK hP 0 he0 (cT_at ha) 60 hk (hts _ (List.mem_filter.mpr ⟨hw, rfl⟩)) (fun _ h9 => h9) hq (by decide +kernel) ?_
  refine lv_iload_n (k := 1) (i := 1) hx hb (by decide +kernel) rfl (lv_at hl 0 rfl) ?_
  refine lv_iconst (n := -1) (v := -1) hx hb (by decide +kernel) (by decide) ?_
  refine va_iast hx hb hK hP hD hS j 0 he rfl (inn_vp (inn_nI hi (by omega))) (by decide +kernel) (fun H1 locs1 hP1 hD1 hS1 => ?_)
  rw [nI_clamp (show i < 2 ^ 31 by omega)] at hP1 hD1
  refine lv_iinc (i := 1) (k := 0) (n := 1) (x := nI i) (v := nI (i + 1)) (lv' := [(1, .int (nI (i + 1))), (0, .ref a)]) hx hb (by decide +kernel) hl rfl (nI_add i 1) (by decide) rfl (fun ls' hl' => ?_)
  refine lv_goto (off := -15) (tgt := 539) hx hb (by decide +kernel) (by decide) ?_
  exact kk H1 locs1 ls' hP1 hD1 hS1 hl'
theorem pt_M_7 : PtF 12 3 7 (.array .int) := ⟨by decide, by decide, ⟨0, 0, (List.mem_filter.mp (gt_in (t := 5) (o := 195) rfl rfl)).1⟩, rfl, by decide +kernel⟩
theorem pt_M_13 : PtF 12 4 13 (.array .int) := ⟨by decide, by decide, ⟨0, 0, (List.mem_filter.mp (gt_in (t := 5) (o := 196) rfl rfl)).1⟩, rfl, by decide +kernel⟩
theorem pt_M_16 : PtF 12 5 16 (.array .int) := ⟨by decide, by decide, ⟨0, 0, (List.mem_filter.mp (gt_in (t := 5) (o := 197) rfl rfl)).1⟩, rfl, by decide +kernel⟩
theorem pt_M_19 : PtF 12 6 19 (.array .int) := ⟨by decide, by decide, ⟨0, 0, (List.mem_filter.mp (gt_in (t := 5) (o := 198) rfl rfl)).1⟩, rfl, by decide +kernel⟩
theorem pt_M_22 : PtF 12 7 22 (.array .int) := ⟨by decide, by decide, ⟨0, 0, (List.mem_filter.mp (gt_in (t := 5) (o := 199) rfl rfl)).1⟩, rfl, by decide +kernel⟩
theorem pt_M_25 : PtF 12 9 25 (.array .int) := ⟨by decide, by decide, ⟨0, 0, (List.mem_filter.mp (gt_in (t := 5) (o := 201) rfl rfl)).1⟩, rfl, by decide +kernel⟩
theorem pt_M_28 : PtF 12 10 28 (.array .int) := ⟨by decide, by decide, ⟨0, 0, (List.mem_filter.mp (gt_in (t := 5) (o := 202) rfl rfl)).1⟩, rfl, by decide +kernel⟩
theorem pt_M_31 : PtF 12 11 31 (.array .int) := ⟨by decide, by decide, ⟨0, 0, (List.mem_filter.mp (gt_in (t := 5) (o := 203) rfl rfl)).1⟩, rfl, by decide +kernel⟩
theorem pt_M_34 : PtF 12 12 34 (.array .int) := ⟨by decide, by decide, ⟨0, 0, (List.mem_filter.mp (gt_in (t := 5) (o := 204) rfl rfl)).1⟩, rfl, by decide +kernel⟩
theorem pt_M_37 : PtF 12 13 37 (.array .int) := ⟨by decide, by decide, ⟨0, 0, (List.mem_filter.mp (gt_in (t := 5) (o := 205) rfl rfl)).1⟩, rfl, by decide +kernel⟩
theorem pt_M_40 : PtF 12 14 40 (.array .int) := ⟨by decide, by decide, ⟨0, 0, (List.mem_filter.mp (gt_in (t := 5) (o := 206) rfl rfl)).1⟩, rfl, by decide +kernel⟩
theorem pt_M_43 : PtF 12 15 43 (.array .int) := ⟨by decide, by decide, ⟨0, 0, (List.mem_filter.mp (gt_in (t := 5) (o := 207) rfl rfl)).1⟩, rfl, by decide +kernel⟩
theorem pt_M_46 : PtF 12 16 46 (.array .int) := ⟨by decide, by decide, ⟨0, 0, (List.mem_filter.mp (gt_in (t := 5) (o := 208) rfl rfl)).1⟩, rfl, by decide +kernel⟩
theorem pt_M_49 : PtF 12 19 49 (.array .int) := ⟨by decide, by decide, ⟨0, 0, (List.mem_filter.mp (gt_in (t := 5) (o := 211) rfl rfl)).1⟩, rfl, by decide +kernel⟩
theorem pt_M_52 : PtF 12 20 52 (.array .int) := ⟨by decide, by decide, ⟨0, 0, (List.mem_filter.mp (gt_in (t := 5) (o := 212) rfl rfl)).1⟩, rfl, by decide +kernel⟩
theorem pt_M_55 : PtF 12 21 55 (.array .int) := ⟨by decide, by decide, ⟨0, 0, (List.mem_filter.mp (gt_in (t := 5) (o := 213) rfl rfl)).1⟩, rfl, by decide +kernel⟩
theorem pt_M_58 : PtF 12 22 58 (.array .boolean) := ⟨by decide, by decide, ⟨0, 0, (List.mem_filter.mp (gt_in (t := 5) (o := 214) rfl rfl)).1⟩, rfl, by decide +kernel⟩
theorem pt_M_62 : PtF 12 23 62 (.array .int) := ⟨by decide, by decide, ⟨0, 0, (List.mem_filter.mp (gt_in (t := 5) (o := 215) rfl rfl)).1⟩, rfl, by decide +kernel⟩
theorem pt_M_65 : PtF 12 24 65 (.array .int) := ⟨by decide, by decide, ⟨0, 0, (List.mem_filter.mp (gt_in (t := 5) (o := 216) rfl rfl)).1⟩, rfl, by decide +kernel⟩
theorem pt_M_68 : PtF 12 25 68 (.array .int) := ⟨by decide, by decide, ⟨0, 0, (List.mem_filter.mp (gt_in (t := 5) (o := 217) rfl rfl)).1⟩, rfl, by decide +kernel⟩
theorem pt_M_71 : PtF 12 26 71 .int := ⟨by decide, by decide, ⟨0, 0, (List.mem_filter.mp (gt_in (t := 5) (o := 218) rfl rfl)).1⟩, rfl, by decide +kernel⟩
theorem pt_M_75 : PtF 12 27 75 .int := ⟨by decide, by decide, ⟨0, 0, (List.mem_filter.mp (gt_in (t := 5) (o := 219) rfl rfl)).1⟩, rfl, by decide +kernel⟩
theorem pt_M_78 : PtF 12 28 78 .int := ⟨by decide, by decide, ⟨0, 0, (List.mem_filter.mp (gt_in (t := 5) (o := 220) rfl rfl)).1⟩, rfl, by decide +kernel⟩
theorem pt_M_81 : PtF 12 30 81 (.array .double) := ⟨by decide, by decide, ⟨0, 0, (List.mem_filter.mp (gt_in (t := 5) (o := 222) rfl rfl)).1⟩, rfl, by decide +kernel⟩
theorem pt_M_85 : PtF 12 34 85 (.array .int) := ⟨by decide, by decide, ⟨0, 0, (List.mem_filter.mp (gt_in (t := 5) (o := 226) rfl rfl)).1⟩, rfl, by decide +kernel⟩
theorem pt_M_88 : PtF 12 35 88 (.array .int) := ⟨by decide, by decide, ⟨0, 0, (List.mem_filter.mp (gt_in (t := 5) (o := 227) rfl rfl)).1⟩, rfl, by decide +kernel⟩
