/-! making the objects -/
def Iz : MI := up2 (up2 (up2 (up2 (up2 (up2 (up2 (up2 (up2 (up2 (up2 (up2 (up2 (up2 (fun _ _ => 0) 3 10 5) 3 11 12) 5 7 10) 8 6 21600) 8 7 64800) 12 26 5) 12 27 12) 12 28 10) 12 71 21600) 12 72 64800) 111 0 (-1)) 111 1 (-1)) 111 2 (-1)) 111 3 (-1)
def Dz : MD := fun _ _ => 0
def shp (k : Nat) : Sh := match nth SHc k with
  | some q => q
  | none => .inr (0, 0)
def wsub (ad : Nat → Nat) (dA : Nat → ClassId) (cs : List Nat) : va_W := cs.map (fun k => (ad k, ent ad dA Iz Dz k (shp k)))
def upA (f : Nat → Nat) (r q : Nat) : Nat → Nat := fun a => match Nat.beq a r with
  | true => q
  | false => f a
theorem upA_ne {f : Nat → Nat} {r q a : Nat} (h : a ≠ r) : upA f r q a = f a := by
  unfold upA
  split
  next hb => exact absurd (Nat.eq_of_beq_eq_true hb) h
  next => rfl
def upL (f : Nat → Nat) : List (Nat × Nat) → Nat → Nat
  | [] => f
  | q :: t => upA (upL f t) q.1 q.2
theorem upL_ne {f : Nat → Nat} : ∀ {t : List (Nat × Nat)} {a : Nat}, a ∉ t.map (fun q => q.1) → upL f t a = f a
  | [], a, _ => rfl
  | q :: t, a, h => by
    simp only [List.map_cons, List.mem_cons, not_or] at h
    show upA (upL f t) q.1 q.2 a = f a
    rw [upA_ne h.1, upL_ne h.2]
def tyT (t : Nat) : FieldType := match t with
  | 0 => .int
  | 1 => .boolean
  | 2 => .short
  | _ => .double
def zrT (t : Nat) : (Nat → Int32) ⊕ (Nat → Int64) ⊕ (Nat → UInt32) ⊕ (Nat → UInt64) ⊕ (Nat → Option Nat) := match t with
  | 3 => .inr (.inr (.inr (.inl (fun _ => 0))))
  | _ => .inl (fun _ => 0)
def rmC (fr mc ms lo : Nat) : Room := { frames := fr, cells := mc, slots := ms, locals := lo }
def NwM (U : State) : Prop := ∀ (a : String) (i : Nat) (x : MethodName) (h : String), Cond.methodLinkNest a i x h ∈ lw_tbl → va_Nw (.methodLinkNest a i x h) U
theorem NwM.warm {s U : State} (hW : s.WarmedH U.vm) (h : NwM s) : NwM U := fun a i x k hm => va_Nw.warmM hW (h a i x k hm)
theorem NwM.same {s U : State} (hW : s.vm = U.vm) (h : NwM s) : NwM U := fun a i x k hm => va_Nw.same rfl hW (h a i x k hm)
def CB (p : Program) (s : State) (m : MethodId) (meth : Method) (c : Code) (args : Array Value) (cc : ByteArray) (nL : Nat) (dA : Nat → ClassId) (G : va_G) (ci : Nat) : Prop := p.tables.exec = Jvm.exec ∧ c.code = cc ∧ c.maxLocals = nL ∧ s.vm.findClass (cT ci).1 = some m.cls ∧ (∀ w ∈ gt, w.before args s = true) ∧ va_K G vwCl (tysOf dA) s ∧ meth.name = "<init>" ∧ NwM s
def CtP (dA : Nat → ClassId) (G : va_G) (ad : Nat → Nat) (c0 ci : Nat) (fs : List Value) (As : List Nat) (sz : Nat) : Array Value → State → Prop := va_Pc ((c0 :: As).map (fun i => Value.ref (ad i))) (fun U => U.heap.size = sz ∧ va_K G vwCl (tysOf dA) U ∧ NwM U ∧ va_P G vwCl [(ad c0, .inr (ci, fs))] U.heap)
abbrev CtA (ad : Nat → Nat) (c0 sz : Nat) : Nat → Prop := fun q => q = ad c0 ∨ sz ≤ q
def CtQ (dA : Nat → ClassId) (G : va_G) (ad : Nat → Nat) (c0 : Nat) (rc : List Nat) (sz : Nat) : Array Value → State → Outcome → State → Prop := va_Qv (fun ad' : Nat → Nat => ∀ i, i ∉ rc → ad' i = ad i) (fun ad' t => va_P G vwCl (wsub ad' dA (c0 :: rc)) t.heap ∧ va_D (CtA ad c0 sz) (wsub ad' dA (c0 :: rc))) (CtA ad c0 sz)
theorem ra_prim {U : State} {cA : ClassId} {t : Nat} (h : va_RA U cA (tyT t)) : U.vm.findClass ("[" ++ (tyT t).toString) = some cA := by
  unfold tyT at h ⊢
  split at h <;> exact h
theorem tys_at (dA : Nat → ClassId) {t : Nat} (h : t < 4) : (tysOf dA)[t]? = some (dA t, tyT t) := by
  rcases (show t = 0 ∨ t = 1 ∨ t = 2 ∨ t = 3 by omega) with rfl | rfl | rfl | rfl <;> rfl
section SCT
variable {p : Program} {l : Launch} {e : Env} {R : Room} {s : State} {m : MethodId} {args : Array Value} {below : List Frame} {meth : Method} {c : Code} {cells slots : Nat} {Q : State → Prop} {H : Heap} {locs : List Loc} {ls : Array Slot}
variable {dA : Nat → ClassId} {G : va_G} {A : Nat → Prop} {H0 : Heap} {cc : ByteArray} {nL ci : Nat} {a : Nat} {fs : List Value} {rs : va_W} {rest : List Value}
theorem new_row (B : CB p s m meth c args cc nL dA G ci) (hA : ∀ q, H0.size ≤ q → A q) {ws : va_W} (hP : va_P G vwCl ws H) (hD : va_D A ws) (hS : va_S A H0 H locs) {pc : Nat} {n : Int32} {N t : Nat} {at' : ArrayType} (d3 : decode cc pc = .ok (.newarray at', 2)) (ht : t < 4) (hat : newarray.typeOf at' = tyT t) (hn : ¬ n < 0) (hN : n.toNatClampNeg = N) (hby : N ≤ 60000) (hcells : cells + 1 ≤ R.cells) (hslots : slots + N ≤ R.slots) (haw : Cond.arrayClass (tyT t) ∈ gt)
    (kk : ∀ q H1, va_P G vwCl (ws ++ [(q, .inl (dA t, N, zrT t))]) H1 → va_D A (ws ++ [(q, .inl (dA t, N, zrT t))]) → va_S A H0 H1 locs → W p l e R s m args below meth c H1 locs (cells + 1) (slots + N) Q (F0 m (pc + 2) ls (.ref q :: rest))) : W p l e R s m args below meth c H locs cells slots Q (F0 m pc ls (.int n :: rest)) := by
  obtain ⟨hx, hb, hml, hown, hts, hK, hin, hNM⟩ := id B
  refine va_newa (a0 := (N, zrT t)) (tys := tysOf dA) hx hb (by rw [hat]; exact hts _ haw) hat hK hP hD hS hA (fun cA => ?_) hn hN ?_ hcells hslots d3 (fun q cA H1 hK1 hP1 hD1 hS1 => ?_)
  · rcases (show t = 0 ∨ t = 1 ∨ t = 2 ∨ t = 3 by omega) with rfl | rfl | rfl | rfl <;> rfl
  · have : componentBytes (tyT t) ≤ 8 := by
      rcases (show t = 0 ∨ t = 1 ∨ t = 2 ∨ t = 3 by omega) with rfl | rfl | rfl | rfl <;> decide
    exact Nat.le_trans (Nat.mul_le_mul hby this) (by decide)
  · have h1 := ra_prim (hK.2 t _ (tys_at dA ht)).2
    have h2 : va_RA s cA (tyT t) := (hK1.2 4 (cA, tyT t) rfl).2
    have h3 : cA = dA t := Option.some.inj ((ra_prim h2).symm.trans h1)
    subst h3
    exact kk q H1 hP1 hD1 hS1
/-- what a field wants of what is put there -/
def PtF (ci k idx : Nat) (ty : FieldType) : Prop := ci < 13 ∧ k < (cT ci).2.2 ∧ (∃ t o, wF (cT ci).1 (idx, ci, k, false, t, o) ∈ lw_tbl) ∧ ((cT ci).2.1 k).1 = (cT ci).1 ∧ parseFieldDescriptor ((cT ci).2.1 k).2.2.1 = some ty
theorem put_f (B : CB p s m meth c args cc nL dA G ci) (hP : va_P G vwCl ((a, .inr (ci, fs)) :: rs) H) (hD : va_D A ((a, .inr (ci, fs)) :: rs)) (hS : va_S A H0 H locs) {pc k idx : Nat} {ty : FieldType} {v : Value} (hF : PtF ci k idx ty) (hn : narrow ty v = v) (hfit : fits ty v = true) (hl : k < fs.length) (d4 : decode cc pc = .ok (.putfield idx, 3))
    (kk : ∀ H1 locs1, va_P G vwCl ((a, .inr (ci, fs.set k v)) :: rs) H1 → va_D A ((a, .inr (ci, fs.set k v)) :: rs) → va_S A H0 H1 locs1 → W p l e R s m args below meth c H1 locs1 cells slots Q (F0 m (pc + 3) ls rest)) : W p l e R s m args below meth c H locs cells slots Q (F0 m pc ls (v :: .ref a :: rest)) := by
  obtain ⟨hx, hb, hml, hown, hts, hK, hin, hNM⟩ := id B
  obtain ⟨ha, hk, ⟨t, o, hw⟩, hdc, hd⟩ := hF
  obtain ⟨hci, ⟨ty0, hty0⟩, hnm⟩ := cT_ok ha
  cases hfin : ((cT ci).2.1 k).2.2.2 with
  | false => exact va_put (D := G) (ci := ci) (C := (cT ci).1) (T := (cT ci).2.1) (N := (cT ci).2.2) hx hb hts hci ty0 hty0 hnm hown hK hP hD hS 0 rfl (cT_at ha) k hk (hts _ (List.mem_filter.mpr ⟨hw, rfl⟩)) (fun _ h9 => h9) hfin hd hn hfit hl d4 kk
  | true => exact va_putF (D := G) (ci := ci) (C := (cT ci).1) (T := (cT ci).2.1) (N := (cT ci).2.2) hx hb hts hci ty0 hty0 hnm hown hK hP hD hS 0 rfl (cT_at ha) k hk (hts _ (List.mem_filter.mpr ⟨hw, rfl⟩)) (fun _ h9 => h9) hfin hin hdc hd hn hfit hl d4 kk
theorem it_put (B : CB p s m meth c args cc nL dA G ci) {NN : Nat} (hlen : fs.length = NN) (hP : va_P G vwCl ((a, .inr (ci, fs)) :: rs) H) (hD : va_D A ((a, .inr (ci, fs)) :: rs)) (hS : va_S A H0 H locs) (h0 : ls[0]? = some (.val (.ref a))) {pc pc2 k idx : Nat} {ty : FieldType} {v : Value} (d1 : decode cc pc = .ok (.aload_n 0, 1)) (hpush : ∀ st, W p l e R s m args below meth c H locs cells slots Q (F0 m pc2 ls (v :: st)) → W p l e R s m args below meth c H locs cells slots Q (F0 m (pc + 1) ls st)) (hF : PtF ci k idx ty) (hn : narrow ty v = v) (hfit : fits ty v = true) (hk : k < NN) (d4 : decode cc pc2 = .ok (.putfield idx, 3))
    (kk : ∀ H1 locs1, (fs.set k v).length = NN → va_P G vwCl ((a, .inr (ci, fs.set k v)) :: rs) H1 → va_D A ((a, .inr (ci, fs.set k v)) :: rs) → va_S A H0 H1 locs1 → W p l e R s m args below meth c H1 locs1 cells slots Q (F0 m (pc2 + 3) ls [])) : W p l e R s m args below meth c H locs cells slots Q (F0 m pc ls []) := by
  obtain ⟨hx, hb, hml, hown, hts, hK, hin, hNM⟩ := id B
  refine lv_aload_n hx hb d1 rfl h0 ?_
  refine hpush _ ?_
  exact put_f B hP hD hS hF hn hfit (by omega) d4 (fun H1 locs1 h1 h2 h3 => kk H1 locs1 (by rw [List.length_set]; exact hlen) h1 h2 h3)
theorem it_arr (B : CB p s m meth c args cc nL dA G ci) (hA : ∀ q, H0.size ≤ q → A q) {NN : Nat} (hlen : fs.length = NN) (hP : va_P G vwCl ((a, .inr (ci, fs)) :: rs) H) (hD : va_D A ((a, .inr (ci, fs)) :: rs)) (hS : va_S A H0 H locs) (h0 : ls[0]? = some (.val (.ref a))) {pc pc2 k idx : Nat} {ty : FieldType} {n : Int32} {N t : Nat} {at' : ArrayType} (d1 : decode cc pc = .ok (.aload_n 0, 1)) (hpush : ∀ st, W p l e R s m args below meth c H locs cells slots Q (F0 m pc2 ls (.int n :: st)) → W p l e R s m args below meth c H locs cells slots Q (F0 m (pc + 1) ls st)) (d3 : decode cc pc2 = .ok (.newarray at', 2)) (ht : t < 4) (hat : newarray.typeOf at' = tyT t) (hn : ¬ n < 0) (hN : n.toNatClampNeg = N) (hby : N ≤ 60000) (hcells : cells + 1 ≤ R.cells) (hslots : slots + N ≤ R.slots) (haw : Cond.arrayClass (tyT t) ∈ gt)
    (hF : PtF ci k idx ty) (hnr : ∀ q, narrow ty (.ref q) = .ref q) (hfit : ∀ q, fits ty (.ref q) = true) (hk : k < NN) (d4 : decode cc (pc2 + 2) = .ok (.putfield idx, 3))
    (kk : ∀ q H1 locs1, (fs.set k (.ref q)).length = NN → va_P G vwCl ((a, .inr (ci, fs.set k (.ref q))) :: (rs ++ [(q, .inl (dA t, N, zrT t))])) H1 → va_D A ((a, .inr (ci, fs.set k (.ref q))) :: (rs ++ [(q, .inl (dA t, N, zrT t))])) → va_S A H0 H1 locs1 → W p l e R s m args below meth c H1 locs1 (cells + 1) (slots + N) Q (F0 m (pc2 + 2 + 3) ls [])) : W p l e R s m args below meth c H locs cells slots Q (F0 m pc ls []) := by
  obtain ⟨hx, hb, hml, hown, hts, hK, hin, hNM⟩ := id B
  refine lv_aload_n hx hb d1 rfl h0 ?_
  refine hpush _ ?_
  refine new_row B hA hP hD hS d3 ht hat hn hN hby hcells hslots haw (fun q H1 hP1 hD1 hS1 => ?_)
  have hP2 : va_P G vwCl ((a, .inr (ci, fs)) :: (rs ++ [(q, .inl (dA t, N, zrT t))])) H1 := hP1
  have hD2 : va_D A ((a, .inr (ci, fs)) :: (rs ++ [(q, .inl (dA t, N, zrT t))])) := hD1
  exact put_f B hP2 hD2 hS1 hF (hnr q) (hfit q) (by omega) d4 (fun H1 locs1 h1 h2 h3 => kk q H1 locs1 (by rw [List.length_set]; exact hlen) h1 h2 h3)
theorem it_obj (B : CB p s m meth c args cc nL dA G ci) {idx : Nat} (hls : ls.size = nL) (h0 : ls[0]? = some (.val (.ref a))) (d0 : decode cc 0 = .ok (.aload_n 0, 1)) (d1 : decode cc 1 = .ok (.invokespecial idx, 3)) (hw : Cond.methodLink (cT ci).1 idx Lib.objectInit ∈ gt ∧ Cond.instanceMethod Lib.objectInit ∈ gt ∧ Cond.code Lib.objectInit ⟨#[0xb1]⟩ 1 none ∈ gt) (hR : 1 ≤ R.frames ∧ 12 ≤ R.locals)
    (kk : W p l e R s m args below meth c H locs cells slots Q (F0 m 4 ls [])) : W p l e R s m args below meth c H locs cells slots Q (F0 m 0 ls []) := by
  obtain ⟨hx, hb, hml, hown, hts, hK, hin, hNM⟩ := id B
  refine lv_aload_n hx hb d0 rfl h0 ?_
  exact W.objInit hx hb hown (hts _ hw.1) (hts _ hw.2.1) (hts _ hw.2.2) rfl (by rw [hml]; exact hls) rfl d1 hR.1 (by show 2 * 0 + 0 + 12 ≤ _; omega) kk
end SCT
set_option maxHeartbeats 1000000 in
theorem ctor_of {l : Launch} {dA : Nat → ClassId} {G : va_G} {ad : Nat → Nat} {c0 ci sz nL mc ms fr lo : Nat} {y : MethodName} {cc : ByteArray} {fs : List Value} {As rc : List Nat} (hy : plainFor y = true) (hcls : y.cls = (cT ci).1) (hyn : y.name = "<init>") (hsl : slen ((c0 :: As).map (fun i => Value.ref (ad i))) ≤ nL)
    (body : ∀ (p : Program) (e : Env) (s : State) (m : MethodId) (args : Array Value) (below : List Frame) (meth : Method) (c : Code) (Q : State → Prop) (ls : Array Slot), CB p s m meth c args cc nL dA G ci → (∀ q, s.heap.size ≤ q → CtA ad c0 sz q) → (∀ pc ls1 ad' H1 locs1, decode cc pc = .ok (.return_, 1) → (∀ i, i ∉ rc → ad' i = ad i) → va_P G vwCl (wsub ad' dA (c0 :: rc)) H1 → va_D (CtA ad c0 sz) (wsub ad' dA (c0 :: rc)) → va_S (CtA ad c0 sz) s.heap H1 locs1 → W p l e (rmC fr mc ms lo) s m args below meth c H1 locs1 mc ms Q (F0 m pc ls1 [])) → va_P G vwCl [(ad c0, .inr (ci, fs))] s.heap → va_D (CtA ad c0 sz) [(ad c0, .inr (ci, fs))] → lv_has ls nL (lv_args 0 ((c0 :: As).map (fun i => Value.ref (ad i)))) → W p l e (rmC fr mc ms lo) s m args below meth c s.heap [] 0 0 Q (F0 m 0 ls [])) :
    Met l y (Cond.code y cc nL none :: gt) (rmC fr mc ms lo) (CtP dA G ad c0 ci fs As sz) (CtQ dA G ad c0 rc sz) mc ms (CtA ad c0 sz) := by
  refine Met.ofWF (cc := cc) (maxL := nL) (ret := none) hy rfl ?_
  intro p e s m args below meth c s₁ B hml hv
  obtain ⟨rfl, hsz, hK, hNM, hP⟩ := hv
  have hts := atoms_spec (ws := Cond.code y cc nL none :: gt) B.pre
  have hown : s.vm.findClass (cT ci).1 = some m.cls := by rw [← hcls]; exact findClass_of_methodNamed B.named
  have hin : meth.name = "<init>" := ((name_of_methodNamed B.named B.method).1).trans hyn
  have hlocks := B.notSynchronized
  have hr := B.returns
  have hl := lv_entry ((c0 :: As).map (fun i => Value.ref (ad i))) (n := nL) (by rw [slen_e]; exact hsl)
  rw [lg_entry_eq]
  refine body p e s m _ below meth c _ _ ⟨B.exec, B.bytes, hml, hown, fun w hw => hts w (List.mem_cons_of_mem _ hw), hK, hin, hNM⟩ (fun q hq => Or.inr (by omega)) ?_ hP ⟨fun i j x y hx hy hxy => ?_, fun k q hq => ?_⟩ hl
  · intro pc ls1 ad' H1 locs1 hdec hag hP1 hD1 hS1
    exact W.vret B.exec B.bytes hr (fun t ht _ => ⟨⟨ad', rfl, hag, by rw [ht]; exact hP1, hD1⟩, hS1.F ht⟩) hS1.2.2 hdec
  · have h1 := (List.getElem?_eq_some_iff.mp hx).1
    have h2 := (List.getElem?_eq_some_iff.mp hy).1
    simp only [List.length_cons, List.length_nil] at h1 h2
    omega
  · have h1 := (List.getElem?_eq_some_iff.mp hq).1
    simp only [List.length_cons, List.length_nil] at h1
    rw [show k = 0 by omega] at hq
    cases hq
    exact Or.inl rfl
