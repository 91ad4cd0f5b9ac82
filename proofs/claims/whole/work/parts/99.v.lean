/-! an object made within -/
def rfs : Sh → List Nat
  | .inl q => q.2.filterMap (fun f => match f with
    | .inl t => some t
    | .inr _ => none)
  | .inr _ => []
def okN (cs new : List Nat) : Bool := cs.all (fun k => !(new.contains k) && (rfs (shp k)).all (fun t => !(new.contains t)))
theorem fvs_c {ad ad' : Nat → Nat} {I : MI} {D : MD} {k : Nat} : ∀ (l : List (Nat ⊕ Bool)) (j : Nat), (∀ t, Sum.inl t ∈ l → ad' t = ad t) → fvs ad' I D k j l = fvs ad I D k j l
  | [], j, _ => rfl
  | f :: t, j, h => by
    have h3 := fvs_c (ad := ad) (ad' := ad') (I := I) (D := D) (k := k) t (j + 1) (fun x hx => h x (List.mem_cons_of_mem _ hx))
    simp only [fvs, h3]
    congr 1
    rcases f with x | b
    · show Value.ref (ad' x) = Value.ref (ad x)
      rw [h x List.mem_cons_self]
    · cases b <;> rfl
theorem wsub_c {ad ad' : Nat → Nat} {dA : Nat → ClassId} {new cs : List Nat} (h : ∀ i, i ∉ new → ad' i = ad i) (hc : okN cs new = true) : wsub ad' dA cs = wsub ad dA cs := by
  unfold wsub
  apply List.map_congr_left
  intro k hk
  have h1 := List.all_eq_true.mp hc k hk
  simp only [Bool.and_eq_true, Bool.not_eq_true', List.all_eq_true] at h1
  have nc : ∀ t, new.contains t = false → ad' t = ad t := by
    intro t ht
    refine h t (fun hm => ?_)
    rw [List.contains_iff_mem.mpr hm] at ht
    cases ht
  rw [nc k h1.1]
  congr 1
  cases hs : shp k with
  | inl q =>
    show Sum.inr (q.1, fvs ad' Iz Dz k 0 q.2) = Sum.inr (q.1, fvs ad Iz Dz k 0 q.2)
    rw [fvs_c q.2 0 (fun t ht => nc t (h1.2 t ?_))]
    rw [hs]
    exact List.mem_filterMap.mpr ⟨.inl t, ht, rfl⟩
  | inr q => rfl
theorem join_new {G : va_G} {A : Nat → Prop} {ws w1 : va_W} {q : Nat} {en : va_E} {Hn H1 : Heap} (hP : va_P G vwCl (ws ++ [(q, en)]) Hn) (hD : va_D A (ws ++ [(q, en)])) (hk : ∀ x : Nat, x < Hn.size → ¬ (x = q ∨ Hn.size ≤ x) → H1[x]? = Hn[x]?) (hP1 : va_P G vwCl w1 H1) (hD1 : va_D (fun x => x = q ∨ Hn.size ≤ x) w1) (hF : ∀ x : Nat, (x = q ∨ Hn.size ≤ x) → A x) : va_P G vwCl (ws ++ w1) H1 ∧ va_D A (ws ++ w1) := by
  have lift : ∀ (k : Nat) (x : Nat × va_E), ws[k]? = some x → k < ws.length ∧ (ws ++ [(q, en)])[k]? = some x := by
    intro k x hx
    have hl := (List.getElem?_eq_some_iff.mp hx).1
    exact ⟨hl, by rw [List.getElem?_append_left hl]; exact hx⟩
  have lastq : (ws ++ [(q, en)])[ws.length]? = some (q, en) := by
    rw [List.getElem?_append_right (Nat.le_refl _)]
    simp
  have apart : ∀ (k : Nat) (x : Nat × va_E), ws[k]? = some x → x.1 < Hn.size ∧ x.1 ≠ q := by
    intro k x hx
    obtain ⟨h1, h2⟩ := lift k x hx
    refine ⟨(hP k x h2).lt, fun e => ?_⟩
    have := hD.1 k ws.length x (q, en) h2 lastq e
    omega
  refine ⟨va_P.app (fun k x hx => ?_) hP1, va_D.app ⟨fun i j x y hx hy => hD.1 i j x y (lift i x hx).2 (lift j y hy).2, fun k x hx => hD.2 k x (lift k x hx).2⟩ (hD1.weaken (fun k x _ h => hF x.1 h)) (fun i j x y hx hy hxy => ?_)⟩
  · obtain ⟨h1, h2⟩ := apart k x hx
    exact (hP k x (lift k x hx).2).kept (hk x.1 h1 (fun z => by rcases z with z | z <;> omega))
  · obtain ⟨h1, h2⟩ := apart i x hx
    rcases hD1.2 j y hy with z | z
    · exact h2 (hxy.trans z)
    · rw [hxy] at h1
      omega
theorem CtP_blind (dA : Nat → ClassId) (G : va_G) (ad : Nat → Nat) (c0 ci : Nat) (fs : List Value) (As : List Nat) (sz : Nat) : FrameBlind (CtP dA G ad c0 ci fs As sz) := by
  intro a U gf mk q
  obtain ⟨q0, q1, qK, qN, qP⟩ := q
  exact ⟨q0, q1, va_K.moved (u := U) (U := U.calling gf mk a) (Vm.Alike.refl U.vm) qK, NwM.same (s := U) rfl qN, qP⟩
section SMK
variable {p : Program} {l : Launch} {e : Env} {R : Room} {s : State} {m : MethodId} {args : Array Value} {below : List Frame} {meth : Method} {c : Code} {cells slots : Nat} {Q : State → Prop} {H : Heap} {locs : List Loc} {ls : Array Slot}
variable {dA : Nat → ClassId} {G : va_G} {A : Nat → Prop} {H0 : Heap} {cc : ByteArray} {nL : Nat} {rest : List Value} {own : String}
set_option maxHeartbeats 2000000 in
theorem mk_obj (S : CallFix p m c cc nL s args gt own) (hK : va_K G vwCl (tysOf dA) s) (hNM : NwM s) (hA : ∀ q, H0.size ≤ q → A q) {W0 : va_W} {cs : List Nat} {ad : Nat → Nat} (hP : va_P G vwCl (W0 ++ wsub ad dA cs) H) (hD : va_D A (W0 ++ wsub ad dA cs)) (hS : va_S A H0 H locs) (hls : ls.size = nL)
    (ci' c' : Nat) (ha : ci' < 13) {i1 i2 pc pcC : Nat} (d1 : decode cc pc = .ok (.new i1, 3)) (d2 : decode cc (pc + 3) = .ok (.dup, 1)) (d3 : decode cc pcC = .ok (.invokespecial i2, 3))
    (w1 : Cond.classLink own i1 (cT ci').1 ∈ gt) (w2 : Cond.instantiable (cT ci').1 (cT ci').2.2 ∈ gt) (w3 : Cond.initialized (cT ci').1 ∈ gt)
    (ty0 : Nat → FieldType) (hty0 : ∀ k, k < (cT ci').2.2 → parseFieldDescriptor ((cT ci').2.1 k).2.2.1 = some (ty0 k)) {fs' : List Value} (hfs : ∀ j, j < (cT ci').2.2 → defaultValue (ty0 j) = vp_V fs' j)
    {y : MethodName} {cc' : ByteArray} {nL' fr mc ms lo : Nat} {As' rc : List Nat} (hC : ∀ (ad1 : Nat → Nat) sz, Met l y (Cond.code y cc' nL' none :: gt) (rmC fr mc ms lo) (CtP dA G ad1 c' ci' fs' As' sz) (CtQ dA G ad1 c' rc sz) mc ms (CtA ad1 c' sz))
    (w4 : Cond.code y cc' nL' none ∈ gt) (w5 : Cond.initialized y.cls ∈ gt) (w6 : Cond.methodLink own i2 y ∈ gt ∨ Cond.methodLinkNest own i2 y "TideDesk" ∈ lw_tbl) (w7 : Cond.instanceMethod y ∈ gt) (hyn : y.name = "<init>") (hyd : y.cls ≠ "java/lang/invoke/MethodHandle" ∧ y.cls ≠ "java/lang/invoke/VarHandle" ∧ (parseMethodDescriptor y.desc).map (fun d => d.parameters.length) = some As'.length)
    (hR : fr + 1 ≤ R.frames ∧ 8 + (nL' + 11) + lo ≤ R.locals) (hcells : cells + 1 + mc ≤ R.cells) (hslots : slots + (cT ci').2.2 + ms ≤ R.slots)
    (hAs : ∀ a ∈ As', a ≠ c') (hpush : ∀ st H locs cells slots, W p l e R s m args below meth c H locs cells slots Q (F0 m pcC ls ((As'.map (fun i => Value.ref (ad i))).reverse ++ st)) → W p l e R s m args below meth c H locs cells slots Q (F0 m (pc + 4) ls st))
    (hok : okN cs (c' :: rc) = true) (hnr : c' ∉ rc) (hrest : (rest.map fun v => v.category).sum ≤ 6)
    (kk : ∀ (ad2 : Nat → Nat) H1 locs1, (∀ i, i ∉ c' :: rc → ad2 i = ad i) → va_P G vwCl (W0 ++ wsub ad2 dA (cs ++ c' :: rc)) H1 → va_D A (W0 ++ wsub ad2 dA (cs ++ c' :: rc)) → va_S A H0 H1 locs1 → W p l e R s m args below meth c H1 locs1 (cells + 1 + mc) (slots + (cT ci').2.2 + ms) Q (F0 m (pcC + 3) ls (.ref (ad2 c') :: rest))) : W p l e R s m args below meth c H locs cells slots Q (F0 m pc ls rest) := by
  obtain ⟨hx, hb, hml, hown, hts⟩ := id S
  refine va_new (ci := ci') (fs := fs') (C := (cT ci').1) (T := (cT ci').2.1) (N := (cT ci').2.2) hx hb hts (cT_ok ha).1 ty0 hty0 hown (hts _ w1) (hts _ w2) (hts _ w3) hK hP hD hS hA (cT_at ha) hfs (by omega) (by omega) d1 (fun q Hn hPn hDn hSn => ?_)
  refine lv_dup hx hb d2 rfl ?_
  refine hpush _ _ _ _ _ ?_
  have e1 : upA ad c' q c' = q := by
    unfold upA
    rw [show Nat.beq c' c' = true from Nat.beq_refl c']
  have e2 : (As'.map (fun i => Value.ref (upA ad c' q i))) = As'.map (fun i => Value.ref (ad i)) := by
    apply List.map_congr_left
    intro i hi
    rw [upA_ne (hAs i hi)]
  have hqA : ∀ x : Nat, CtA (upA ad c' q) c' Hn.size x → A x := by
    intro x hx
    rcases hx with z | z
    · rw [e1] at z
      have := hDn.2 (W0 ++ wsub ad dA cs).length (q, .inr (ci', fs')) (by rw [List.getElem?_append_right (Nat.le_refl _)]; simp)
      rw [z]
      exact this
    · exact hA x (Nat.le_trans hSn.1 z)
  have hPq : va_P G vwCl [(upA ad c' q c', .inr (ci', fs'))] Hn := by
    intro k x hx
    have h1 := (List.getElem?_eq_some_iff.mp hx).1
    simp only [List.length_cons, List.length_nil] at h1
    rw [show k = 0 by omega] at hx
    cases hx
    rw [e1]
    exact hPn (W0 ++ wsub ad dA cs).length (q, .inr (ci', fs')) (by rw [List.getElem?_append_right (Nat.le_refl _)]; simp)
  have hpre : PreS s Hn (CtP dA G (upA ad c' q) c' ci' fs' As' Hn.size) (.ref q :: As'.map (fun i => Value.ref (ad i))) := ⟨CtP_blind _ _ _ _ _ _ _ _, fun U hU hW => ⟨by show _ = (List.map (fun i => Value.ref (upA ad c' q i)) (c' :: As')).toArray; rw [List.map_cons, e1, e2], by rw [hU], va_K.moved hW.alike hK, NwM.warm hW hNM, by rw [hU]; exact hPq⟩⟩
  have hroom : 2 * (F0 m pcC ls ((As'.map (fun i => Value.ref (ad i))).reverse ++ .ref q :: .ref q :: rest)).monitorRoom + ((Value.ref q :: rest).map fun v => v.category).sum ≤ 8 := by
    show 2 * 0 + ((Value.ref q :: rest).map fun v => v.category).sum ≤ 8
    simp only [List.map_cons, List.sum_cons]
    have : (Value.ref q).category = 1 := rfl
    omega
  have hrun : va_Run p l e R s m args below meth c Hn locs (cells + 1) (slots + (cT ci').2.2) mc ms (F0 m pcC ls ((As'.map (fun i => Value.ref (ad i))).reverse ++ .ref q :: .ref q :: rest)) (.ref q :: rest) (CtQ dA G (upA ad c' q) c' rc Hn.size (Value.ref q :: As'.map (fun i => Value.ref (ad i))).toArray) (CtA (upA ad c' q) c' Hn.size) := by
    rcases w6 with w6 | w6
    · exact va_runI (l := l) (e := e) (R := R) (below := below) (meth := meth) (H := Hn) (locs := locs) (cells := cells + 1) (slots := slots + (cT ci').2.2) (g := F0 m pcC ls ((As'.map (fun i => Value.ref (ad i))).reverse ++ .ref q :: .ref q :: rest)) (As := As'.map (fun i => Value.ref (ad i))) (b := q) (rest := .ref q :: rest) ⟨hx, hb, hml, hown, hts⟩ (hC (upA ad c' q) Hn.size) (cwI As'.length hts (gt_goodIn w4) rfl rfl rfl (hts _ w5) (hts _ w6) (hts _ w7) hyn hyd hR) hpre rfl (by simp) hls rfl hroom d3 ⟨hcells, hslots⟩
    · exact va_runIN (l := l) (e := e) (R := R) (below := below) (meth := meth) (H := Hn) (locs := locs) (cells := cells + 1) (slots := slots + (cT ci').2.2) (g := F0 m pcC ls ((As'.map (fun i => Value.ref (ad i))).reverse ++ .ref q :: .ref q :: rest)) (As := As'.map (fun i => Value.ref (ad i))) (b := q) (rest := .ref q :: rest) ⟨hx, hb, hml, hown, hts⟩ (hC (upA ad c' q) Hn.size) ⟨va_cnB As'.length hts (gt_goodIn w4) rfl rfl rfl (hNM _ _ _ _ w6) (hts _ w5) hyd hR, hyn, hts _ w7⟩ hpre rfl (by simp) hls rfl hroom d3 ⟨hcells, hslots⟩
  refine va_callv hrun hSn (fun x _ h => hqA x h) hqA (fun ad2 t H1 locs1 ht hvm hag hB hz hk hS1 => ?_)
  obtain ⟨hB1, hB2⟩ := hB
  rw [ht] at hB1
  have eA : CtA (upA ad c' q) c' Hn.size = (fun x => x = q ∨ Hn.size ≤ x) := by
    unfold CtA
    rw [e1]
  rw [eA] at hk hB2 hqA
  obtain ⟨hPj, hDj⟩ := join_new hPn hDn hk hB1 hB2 hqA
  have hag2 : ∀ i, i ∉ c' :: rc → ad2 i = ad i := by
    intro i hi
    rw [hag i (fun z => hi (List.mem_cons_of_mem _ z)), upA_ne (fun z => hi (by rw [z]; exact List.mem_cons_self))]
  have e3 : ad2 c' = q := by rw [hag c' hnr, e1]
  have e4 : W0 ++ wsub ad dA cs ++ wsub ad2 dA (c' :: rc) = W0 ++ wsub ad2 dA (cs ++ c' :: rc) := by
    rw [← wsub_c hag2 hok, List.append_assoc]
    unfold wsub
    rw [List.map_append]
  rw [e4] at hPj hDj
  have := kk ad2 H1 locs1 hag2 hPj hDj hS1
  rw [e3] at this
  exact this
end SMK
