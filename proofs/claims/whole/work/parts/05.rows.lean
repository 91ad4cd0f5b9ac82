/-- the kinds of rows that the cells have -/
def tysOf (dA : Nat → ClassId) : List (ClassId × FieldType) := [(dA 0, .int), (dA 1, .boolean), (dA 2, .short), (dA 3, .double)]
/-- links to fields of nest mates -/
def NwOk (U : State) : Prop := ∀ (a : String) (i : Nat) (b n d h : String), Cond.fieldLinkNest a i b n d h ∈ lw_tbl → va_Nw (.fieldLinkNest a i b n d h) U
theorem NwOk.warm {s U : State} (hW : s.WarmedH U.vm) (h : NwOk s) : NwOk U := fun a i b n d x hm => va_Nw.warmF hW (h a i b n d x hm)
theorem NwOk.same {s U : State} (hW : s.vm = U.vm) (h : NwOk s) : NwOk U := fun a i b n d x hm => va_Nw.same rfl hW (h a i b n d x hm)
section RW
variable {p : Program} {l : Launch} {e : Env} {R : Room} {s : State} {m : MethodId} {args : Array Value} {below : List Frame} {meth : Method} {c : Code} {cells slots : Nat} {Q : State → Prop}
variable {ad : Nat → Nat} {dA : Nat → ClassId} {G : va_G} {A : Nat → Prop} {SH : List Sh} {H0 : Heap} {nL : Nat} {cc : ByteArray} {own : String} {d : Nat} {SC : Option (Nat × (Nat → Int32))}
/-- the machine at a place of the method, over any heap that holds the cells' contents -/
def AtM (p : Program) (l : Launch) (e : Env) (R : Room) (s : State) (m : MethodId) (args : Array Value) (below : List Frame) (meth : Method) (c : Code) (cells slots : Nat) (Q : State → Prop) (ad : Nat → Nat) (dA : Nat → ClassId) (G : va_G) (A : Nat → Prop) (SH : List Sh) (H0 : Heap) (nL : Nat) : Kt := fun pc lv st I D =>
  ∀ (H : Heap) (locs : List Loc) (ls : Array Slot), lv_has ls nL (lv.map (cq ad)) → va_P G vwCl (wld ad dA I D 0 SH) H → va_S A H0 H locs → W p l e R s m args below meth c H locs cells slots Q (F0 m pc ls (st.map (cv ad)))
/-- what holds all through a method -/
def Bd (p : Program) (R : Room) (s : State) (m : MethodId) (args : Array Value) (c : Code) (cells slots : Nat) (ad : Nat → Nat) (dA : Nat → ClassId) (G : va_G) (A : Nat → Prop) (SH : List Sh) (H0 : Heap) (nL : Nat) (cc : ByteArray) (own : String) (d : Nat) (SC : Option (Nat × (Nat → Int32))) : Prop :=
  p.tables.exec = Jvm.exec ∧ c.code = cc ∧ c.maxLocals = nL ∧ s.vm.findClass own = some m.cls ∧ (∀ w ∈ gt, w.before args s = true) ∧ va_K G vwCl (tysOf dA) s ∧ (∀ I D, va_D A (wld ad dA I D 0 SH)) ∧
  (∀ q, SC = some q → va_X (ad 999) q.1 q.2 s H0 ∧ ad 999 < H0.size ∧ ¬ A (ad 999)) ∧ (d + 1 ≤ R.frames ∧ 64 * (d + 1) ≤ R.locals ∧ cells ≤ R.cells ∧ slots ≤ R.slots) ∧ NwOk s
abbrev BdX (p : Program) (R : Room) (s : State) (m : MethodId) (args : Array Value) (c : Code) (cells slots : Nat) (ad : Nat → Nat) (dA : Nat → ClassId) (G : va_G) (A : Nat → Prop) (SH : List Sh) (H0 : Heap) (nL : Nat) (cc : ByteArray) (own : String) (d : Nat) (SC : Option (Nat × (Nat → Int32))) : Prop := Bd p R s m args c cells slots ad dA G A SH H0 nL cc own d SC
theorem lv_in {ls : Array Slot} {lv : Lv} {i : Nat} {w : Value} (hl : lv_has ls nL (lv.map (cq ad))) (h : (i, w) ∈ lv) : ls[i]? = some (.val (cv ad w)) :=
  hl.2.2 (i, cv ad w) (List.mem_map.mpr ⟨(i, w), h, rfl⟩)
theorem fl1_map (i : Nat) (lv : Lv) : (lv.map (cq ad)).filter (fun q => !(q.1 == i) && !(q.1 + 1 == i && q.2.category == 2)) = (lv.filter (fun q => !(q.1 == i) && !(q.1 + 1 == i && q.2.category == 2))).map (cq ad) := by
  rw [List.filter_map]
  congr 1
  apply List.filter_congr
  intro q _
  simp [cq, cv_cat]
theorem fl2_map (i : Nat) (lv : Lv) : (lv.map (cq ad)).filter (fun q => !(q.1 == i) && (!(q.1 == i + 1) && !(q.1 + 1 == i && q.2.category == 2))) = (lv.filter (fun q => !(q.1 == i) && (!(q.1 == i + 1) && !(q.1 + 1 == i && q.2.category == 2)))).map (cq ad) := by
  rw [List.filter_map]
  congr 1
  apply List.filter_congr
  intro q _
  simp [cq, cv_cat]
theorem AtM.pick {K : Kt} {is : List Nat} {pc : Nat} {lv : Lv} {st : List Value} {I : MI} {D : MD} (hK : ∀ pc lv st I D, K pc lv st I D → AtM p l e R s m args below meth c cells slots Q ad dA G A SH H0 nL pc lv st I D)
    (h : pick is lv (fun lv' => K pc lv' st I D)) : AtM p l e R s m args below meth c cells slots Q ad dA G A SH H0 nL pc lv st I D := by
  obtain ⟨lv', h1, h2⟩ := pick_e h
  intro H locs ls hl hP hS
  refine hK _ _ _ _ _ h1 H locs ls ⟨hl.1, hl.2.1, fun q hq => ?_⟩ hP hS
  obtain ⟨z, hz, rfl⟩ := List.mem_map.mp hq
  exact hl.2.2 _ (List.mem_map.mpr ⟨z, h2 z hz, rfl⟩)
variable {pc : Nat} {lv : Lv} {st : List Value} {I : MI} {D : MD} {k : Nt} {a b : Nat} {v : Value}
-- constants
theorem x_iconst {n : Int} {x : Int32} (B : BdX p R s m args c cells slots ad dA G A SH H0 nL cc own d SC) (hd : decode cc pc = .ok (.iconst n, 1)) (hv : Int32.ofInt n = x) (h : AtM p l e R s m args below meth c cells slots Q ad dA G A SH H0 nL (pc + 1) lv (.int x :: st) I D) : AtM p l e R s m args below meth c cells slots Q ad dA G A SH H0 nL pc lv st I D :=
  fun H locs ls hl hP hS => lv_iconst B.1 B.2.1 hd hv (h H locs ls hl hP hS)
theorem x_bipush {n : Int} {x : Int32} (B : BdX p R s m args c cells slots ad dA G A SH H0 nL cc own d SC) (hd : decode cc pc = .ok (.bipush n, 2)) (hv : (Int8.ofInt n).toInt32 = x) (h : AtM p l e R s m args below meth c cells slots Q ad dA G A SH H0 nL (pc + 2) lv (.int x :: st) I D) : AtM p l e R s m args below meth c cells slots Q ad dA G A SH H0 nL pc lv st I D :=
  fun H locs ls hl hP hS => lv_bipush B.1 B.2.1 hd hv (h H locs ls hl hP hS)
theorem x_sipush {n : Int} {x : Int32} (B : BdX p R s m args c cells slots ad dA G A SH H0 nL cc own d SC) (hd : decode cc pc = .ok (.sipush n, 3)) (hv : (Int16.ofInt n).toInt32 = x) (h : AtM p l e R s m args below meth c cells slots Q ad dA G A SH H0 nL (pc + 3) lv (.int x :: st) I D) : AtM p l e R s m args below meth c cells slots Q ad dA G A SH H0 nL pc lv st I D :=
  fun H locs ls hl hP hS => lv_sipush B.1 B.2.1 hd hv (h H locs ls hl hP hS)
theorem x_lconst {n : Fin 2} {x : Int64} (B : BdX p R s m args c cells slots ad dA G A SH H0 nL cc own d SC) (hd : decode cc pc = .ok (.lconst n, 1)) (hv : Int64.ofNat (n : Nat) = x) (h : AtM p l e R s m args below meth c cells slots Q ad dA G A SH H0 nL (pc + 1) lv (.long x :: st) I D) : AtM p l e R s m args below meth c cells slots Q ad dA G A SH H0 nL pc lv st I D :=
  fun H locs ls hl hP hS => lv_lconst B.1 B.2.1 hd hv (h H locs ls hl hP hS)
theorem x_dconst {n : Fin 2} {x : UInt64} (B : BdX p R s m args c cells slots ad dA G A SH H0 nL cc own d SC) (hd : decode cc pc = .ok (.dconst n, 1)) (hv : (if n = 0 then FP.dconst0 else FP.dconst1) = x) (h : AtM p l e R s m args below meth c cells slots Q ad dA G A SH H0 nL (pc + 1) lv (.double x :: st) I D) : AtM p l e R s m args below meth c cells slots Q ad dA G A SH H0 nL pc lv st I D := by
  intro H locs ls hl hP hS
  subst hv
  rcases (show n = 0 ∨ n = 1 by omega) with rfl | rfl
  · exact lv_dconst0 B.1 B.2.1 hd (h H locs ls hl hP hS)
  · exact lv_dconst1 B.1 B.2.1 hd (h H locs ls hl hP hS)
theorem x_fconst {x : UInt32} (B : BdX p R s m args c cells slots ad dA G A SH H0 nL cc own d SC) (hd : decode cc pc = .ok (.fconst 0, 1)) (hv : FP.fconst0 = x) (h : AtM p l e R s m args below meth c cells slots Q ad dA G A SH H0 nL (pc + 1) lv (.float x :: st) I D) : AtM p l e R s m args below meth c cells slots Q ad dA G A SH H0 nL pc lv st I D := by
  subst hv
  exact fun H locs ls hl hP hS => lv_fconst0 B.1 B.2.1 hd (h H locs ls hl hP hS)
theorem x_ldc {n : Nat} {x : Int32} (B : BdX p R s m args c cells slots ad dA G A SH H0 nL cc own d SC) (hd : decode cc pc = .ok (.ldc n, 2)) (hv : Cond.constant own n x ∈ gt) (h : AtM p l e R s m args below meth c cells slots Q ad dA G A SH H0 nL (pc + 2) lv (.int x :: st) I D) : AtM p l e R s m args below meth c cells slots Q ad dA G A SH H0 nL pc lv st I D :=
  fun H locs ls hl hP hS => lv_ldc B.1 B.2.1 B.2.2.2.1 (B.2.2.2.2.1 _ hv) hd (h H locs ls hl hP hS)
theorem x_ldcw {n : Nat} {x : Int32} (B : BdX p R s m args c cells slots ad dA G A SH H0 nL cc own d SC) (hd : decode cc pc = .ok (.ldc_w n, 3)) (hv : Cond.constant own n x ∈ gt) (h : AtM p l e R s m args below meth c cells slots Q ad dA G A SH H0 nL (pc + 3) lv (.int x :: st) I D) : AtM p l e R s m args below meth c cells slots Q ad dA G A SH H0 nL pc lv st I D :=
  fun H locs ls hl hP hS => lv_ldcw B.1 B.2.1 B.2.2.2.1 (B.2.2.2.2.1 _ hv) hd (h H locs ls hl hP hS)
theorem lv_ldcwf {H : Heap} {locs : List Loc} {ls : Array Slot} {rest : List Value} (hexec : p.tables.exec = Jvm.exec) (hb : c.code = cc) {own : String} {index : Nat} {v : UInt32} (hown : s.vm.findClass own = some m.cls) (hconst : (Jvm.Cond.constantFloat own index v).before args s = true) (hdg : decode cc pc = .ok (.ldc_w index, 3)) (k : W p l e R s m args below meth c H locs cells slots Q (F0 m (pc + 3) ls (.float v :: rest))) : W p l e R s m args below meth c H locs cells slots Q (F0 m pc ls rest) := by
  intro T hT X
  obtain ⟨t, a, b⟩ := k T hT X
  refine ⟨t, ?_, b⟩
  subst hb
  obtain ⟨k0, cf, hk, hcf, hcp⟩ := Cond.constantFloat_spec hown hconst
  obtain ⟨k', hk', he⟩ := X.warmed.alike.2.2 _ _ hk
  have hrest := a
  jvm_step X.here [hexec, hdg, ldc_w.wp_float (s := T) (f := F0 m pc ls rest) X.here.top hk' (by rw [he]; exact hcf) hcp]
  exact hrest
theorem x_ldcf {n : Nat} {x : UInt32} (B : BdX p R s m args c cells slots ad dA G A SH H0 nL cc own d SC) (hd : decode cc pc = .ok (.ldc n, 2)) (hv : Cond.constantFloat own n x ∈ gt) (h : AtM p l e R s m args below meth c cells slots Q ad dA G A SH H0 nL (pc + 2) lv (.float x :: st) I D) : AtM p l e R s m args below meth c cells slots Q ad dA G A SH H0 nL pc lv st I D :=
  fun H locs ls hl hP hS => lv_ldcf B.1 B.2.1 B.2.2.2.1 (B.2.2.2.2.1 _ hv) hd (h H locs ls hl hP hS)
theorem x_ldcwf {n : Nat} {x : UInt32} (B : BdX p R s m args c cells slots ad dA G A SH H0 nL cc own d SC) (hd : decode cc pc = .ok (.ldc_w n, 3)) (hv : Cond.constantFloat own n x ∈ gt) (h : AtM p l e R s m args below meth c cells slots Q ad dA G A SH H0 nL (pc + 3) lv (.float x :: st) I D) : AtM p l e R s m args below meth c cells slots Q ad dA G A SH H0 nL pc lv st I D :=
  fun H locs ls hl hP hS => lv_ldcwf B.1 B.2.1 B.2.2.2.1 (B.2.2.2.2.1 _ hv) hd (h H locs ls hl hP hS)
theorem x_ldc2 {n : Nat} {x : Int64} (B : BdX p R s m args c cells slots ad dA G A SH H0 nL cc own d SC) (hd : decode cc pc = .ok (.ldc2_w n, 3)) (hv : Cond.constantLong own n x ∈ gt) (h : AtM p l e R s m args below meth c cells slots Q ad dA G A SH H0 nL (pc + 3) lv (.long x :: st) I D) : AtM p l e R s m args below meth c cells slots Q ad dA G A SH H0 nL pc lv st I D :=
  fun H locs ls hl hP hS => lv_ldc2 B.1 B.2.1 B.2.2.2.1 (B.2.2.2.2.1 _ hv) hd (h H locs ls hl hP hS)
theorem x_ldc2d {n : Nat} {x : UInt64} (B : BdX p R s m args c cells slots ad dA G A SH H0 nL cc own d SC) (hd : decode cc pc = .ok (.ldc2_w n, 3)) (hv : Cond.constantDouble own n x ∈ gt) (h : AtM p l e R s m args below meth c cells slots Q ad dA G A SH H0 nL (pc + 3) lv (.double x :: st) I D) : AtM p l e R s m args below meth c cells slots Q ad dA G A SH H0 nL pc lv st I D :=
  fun H locs ls hl hP hS => lv_ldc2d B.1 B.2.1 B.2.2.2.1 (B.2.2.2.2.1 _ hv) hd (h H locs ls hl hP hS)
theorem x_iload {i : Nat} (B : BdX p R s m args c cells slots ad dA G A SH H0 nL cc own d SC) (hd : decode cc pc = .ok (.iload i, 2)) (hi : i = a) (h : lk lv a (fun w => isI w (k lv (w :: st) I D))) (hk : ∀ lv st I D, k lv st I D → AtM p l e R s m args below meth c cells slots Q ad dA G A SH H0 nL (pc + 2) lv st I D) : AtM p l e R s m args below meth c cells slots Q ad dA G A SH H0 nL pc lv st I D := by
  obtain ⟨w, h1, h2⟩ := lk_e h
  obtain ⟨x, rfl, h3⟩ := isI_e h2
  intro H locs ls hl hP hS
  exact lv_iload B.1 B.2.1 hd (by rw [hi]; exact lv_in hl h1) (hk _ _ _ _ h3 H locs ls hl hP hS)
theorem x_iload_n {i : Fin 4} (B : BdX p R s m args c cells slots ad dA G A SH H0 nL cc own d SC) (hd : decode cc pc = .ok (.iload_n i, 1)) (hi : (i : Nat) = a) (h : lk lv a (fun w => isI w (k lv (w :: st) I D))) (hk : ∀ lv st I D, k lv st I D → AtM p l e R s m args below meth c cells slots Q ad dA G A SH H0 nL (pc + 1) lv st I D) : AtM p l e R s m args below meth c cells slots Q ad dA G A SH H0 nL pc lv st I D := by
  obtain ⟨w, h1, h2⟩ := lk_e h
  obtain ⟨x, rfl, h3⟩ := isI_e h2
  intro H locs ls hl hP hS
  exact lv_iload_n B.1 B.2.1 hd hi (lv_in hl h1) (hk _ _ _ _ h3 H locs ls hl hP hS)
theorem x_lload {i : Nat} (B : BdX p R s m args c cells slots ad dA G A SH H0 nL cc own d SC) (hd : decode cc pc = .ok (.lload i, 2)) (hi : i = a) (h : lk lv a (fun w => isL w (k lv (w :: st) I D))) (hk : ∀ lv st I D, k lv st I D → AtM p l e R s m args below meth c cells slots Q ad dA G A SH H0 nL (pc + 2) lv st I D) : AtM p l e R s m args below meth c cells slots Q ad dA G A SH H0 nL pc lv st I D := by
  obtain ⟨w, h1, h2⟩ := lk_e h
  obtain ⟨x, rfl, h3⟩ := isL_e h2
  intro H locs ls hl hP hS
  exact lv_lload B.1 B.2.1 hd (by rw [hi]; exact lv_in hl h1) (hk _ _ _ _ h3 H locs ls hl hP hS)
theorem x_lload_n {i : Fin 4} (B : BdX p R s m args c cells slots ad dA G A SH H0 nL cc own d SC) (hd : decode cc pc = .ok (.lload_n i, 1)) (hi : (i : Nat) = a) (h : lk lv a (fun w => isL w (k lv (w :: st) I D))) (hk : ∀ lv st I D, k lv st I D → AtM p l e R s m args below meth c cells slots Q ad dA G A SH H0 nL (pc + 1) lv st I D) : AtM p l e R s m args below meth c cells slots Q ad dA G A SH H0 nL pc lv st I D := by
  obtain ⟨w, h1, h2⟩ := lk_e h
  obtain ⟨x, rfl, h3⟩ := isL_e h2
  intro H locs ls hl hP hS
  exact lv_lload_n B.1 B.2.1 hd hi (lv_in hl h1) (hk _ _ _ _ h3 H locs ls hl hP hS)
theorem x_fload {i : Nat} (B : BdX p R s m args c cells slots ad dA G A SH H0 nL cc own d SC) (hd : decode cc pc = .ok (.fload i, 2)) (hi : i = a) (h : lk lv a (fun w => isF w (k lv (w :: st) I D))) (hk : ∀ lv st I D, k lv st I D → AtM p l e R s m args below meth c cells slots Q ad dA G A SH H0 nL (pc + 2) lv st I D) : AtM p l e R s m args below meth c cells slots Q ad dA G A SH H0 nL pc lv st I D := by
  obtain ⟨w, h1, h2⟩ := lk_e h
  obtain ⟨x, rfl, h3⟩ := isF_e h2
  intro H locs ls hl hP hS
  exact lv_fload B.1 B.2.1 hd (by rw [hi]; exact lv_in hl h1) (hk _ _ _ _ h3 H locs ls hl hP hS)
theorem x_dload {i : Nat} (B : BdX p R s m args c cells slots ad dA G A SH H0 nL cc own d SC) (hd : decode cc pc = .ok (.dload i, 2)) (hi : i = a) (h : lk lv a (fun w => isD w (k lv (w :: st) I D))) (hk : ∀ lv st I D, k lv st I D → AtM p l e R s m args below meth c cells slots Q ad dA G A SH H0 nL (pc + 2) lv st I D) : AtM p l e R s m args below meth c cells slots Q ad dA G A SH H0 nL pc lv st I D := by
  obtain ⟨w, h1, h2⟩ := lk_e h
  obtain ⟨x, rfl, h3⟩ := isD_e h2
  intro H locs ls hl hP hS
  exact lv_dload B.1 B.2.1 hd (by rw [hi]; exact lv_in hl h1) (hk _ _ _ _ h3 H locs ls hl hP hS)
theorem x_dload_n {i : Fin 4} (B : BdX p R s m args c cells slots ad dA G A SH H0 nL cc own d SC) (hd : decode cc pc = .ok (.dload_n i, 1)) (hi : (i : Nat) = a) (h : lk lv a (fun w => isD w (k lv (w :: st) I D))) (hk : ∀ lv st I D, k lv st I D → AtM p l e R s m args below meth c cells slots Q ad dA G A SH H0 nL (pc + 1) lv st I D) : AtM p l e R s m args below meth c cells slots Q ad dA G A SH H0 nL pc lv st I D := by
  obtain ⟨w, h1, h2⟩ := lk_e h
  obtain ⟨x, rfl, h3⟩ := isD_e h2
  intro H locs ls hl hP hS
  exact lv_dload_n B.1 B.2.1 hd hi (lv_in hl h1) (hk _ _ _ _ h3 H locs ls hl hP hS)
theorem x_aload {i : Nat} (B : BdX p R s m args c cells slots ad dA G A SH H0 nL cc own d SC) (hd : decode cc pc = .ok (.aload i, 2)) (hi : i = a) (h : lk lv a (fun w => isR w (k lv (w :: st) I D))) (hk : ∀ lv st I D, k lv st I D → AtM p l e R s m args below meth c cells slots Q ad dA G A SH H0 nL (pc + 2) lv st I D) : AtM p l e R s m args below meth c cells slots Q ad dA G A SH H0 nL pc lv st I D := by
  obtain ⟨w, h1, h2⟩ := lk_e h
  obtain ⟨x, rfl, h3⟩ := isR_e h2
  intro H locs ls hl hP hS
  exact lv_aload B.1 B.2.1 hd (by rw [hi]; exact lv_in hl h1) (hk _ _ _ _ h3 H locs ls hl hP hS)
theorem x_aload_n {i : Fin 4} (B : BdX p R s m args c cells slots ad dA G A SH H0 nL cc own d SC) (hd : decode cc pc = .ok (.aload_n i, 1)) (hi : (i : Nat) = a) (h : lk lv a (fun w => isR w (k lv (w :: st) I D))) (hk : ∀ lv st I D, k lv st I D → AtM p l e R s m args below meth c cells slots Q ad dA G A SH H0 nL (pc + 1) lv st I D) : AtM p l e R s m args below meth c cells slots Q ad dA G A SH H0 nL pc lv st I D := by
  obtain ⟨w, h1, h2⟩ := lk_e h
  obtain ⟨x, rfl, h3⟩ := isR_e h2
  intro H locs ls hl hP hS
  exact lv_aload_n B.1 B.2.1 hd hi (lv_in hl h1) (hk _ _ _ _ h3 H locs ls hl hP hS)
theorem x_istore {i : Nat} (B : BdX p R s m args c cells slots ad dA G A SH H0 nL cc own d SC) (hd : decode cc pc = .ok (.istore i, 2)) (hi : i = a) (hn : a < nL) (h : tI st (fun x r => fl1 a lv (fun t => k ((a, .int x) :: t) r I D))) (hk : ∀ lv st I D, k lv st I D → AtM p l e R s m args below meth c cells slots Q ad dA G A SH H0 nL (pc + 2) lv st I D) : AtM p l e R s m args below meth c cells slots Q ad dA G A SH H0 nL pc lv st I D := by
  obtain ⟨x, r, rfl, h1⟩ := tI_e h
  have h2 := fl1_e h1
  intro H locs ls hl hP hS
  exact (by subst hi; exact lv_istore B.1 B.2.1 hd hl hn (by rw [fl1_map]; rfl) (fun ls hl => hk _ _ _ _ h2 H locs ls hl hP hS))
theorem x_istore_n {i : Fin 4} (B : BdX p R s m args c cells slots ad dA G A SH H0 nL cc own d SC) (hd : decode cc pc = .ok (.istore_n i, 1)) (hi : (i : Nat) = a) (hn : a < nL) (h : tI st (fun x r => fl1 a lv (fun t => k ((a, .int x) :: t) r I D))) (hk : ∀ lv st I D, k lv st I D → AtM p l e R s m args below meth c cells slots Q ad dA G A SH H0 nL (pc + 1) lv st I D) : AtM p l e R s m args below meth c cells slots Q ad dA G A SH H0 nL pc lv st I D := by
  obtain ⟨x, r, rfl, h1⟩ := tI_e h
  have h2 := fl1_e h1
  intro H locs ls hl hP hS
  exact lv_istore_n B.1 B.2.1 hd hi hl hn (by rw [fl1_map]; rfl) (fun ls hl => hk _ _ _ _ h2 H locs ls hl hP hS)
theorem x_lstore {i : Nat} (B : BdX p R s m args c cells slots ad dA G A SH H0 nL cc own d SC) (hd : decode cc pc = .ok (.lstore i, 2)) (hi : i = a) (hn : a + 1 < nL) (h : tL st (fun x r => fl2 a lv (fun t => k ((a, .long x) :: t) r I D))) (hk : ∀ lv st I D, k lv st I D → AtM p l e R s m args below meth c cells slots Q ad dA G A SH H0 nL (pc + 2) lv st I D) : AtM p l e R s m args below meth c cells slots Q ad dA G A SH H0 nL pc lv st I D := by
  obtain ⟨x, r, rfl, h1⟩ := tL_e h
  have h2 := fl2_e h1
  intro H locs ls hl hP hS
  exact (by subst hi; exact lv_lstore B.1 B.2.1 hd hl hn (by rw [fl2_map]; rfl) (fun ls hl => hk _ _ _ _ h2 H locs ls hl hP hS))
theorem x_fstore {i : Nat} (B : BdX p R s m args c cells slots ad dA G A SH H0 nL cc own d SC) (hd : decode cc pc = .ok (.fstore i, 2)) (hi : i = a) (hn : a < nL) (h : tF st (fun x r => fl1 a lv (fun t => k ((a, .float x) :: t) r I D))) (hk : ∀ lv st I D, k lv st I D → AtM p l e R s m args below meth c cells slots Q ad dA G A SH H0 nL (pc + 2) lv st I D) : AtM p l e R s m args below meth c cells slots Q ad dA G A SH H0 nL pc lv st I D := by
  obtain ⟨x, r, rfl, h1⟩ := tF_e h
  have h2 := fl1_e h1
  intro H locs ls hl hP hS
  exact (by subst hi; exact lv_fstore B.1 B.2.1 hd hl hn (by rw [fl1_map]; rfl) (fun ls hl => hk _ _ _ _ h2 H locs ls hl hP hS))
theorem x_dstore {i : Nat} (B : BdX p R s m args c cells slots ad dA G A SH H0 nL cc own d SC) (hd : decode cc pc = .ok (.dstore i, 2)) (hi : i = a) (hn : a + 1 < nL) (h : tD st (fun x r => fl2 a lv (fun t => k ((a, .double x) :: t) r I D))) (hk : ∀ lv st I D, k lv st I D → AtM p l e R s m args below meth c cells slots Q ad dA G A SH H0 nL (pc + 2) lv st I D) : AtM p l e R s m args below meth c cells slots Q ad dA G A SH H0 nL pc lv st I D := by
  obtain ⟨x, r, rfl, h1⟩ := tD_e h
  have h2 := fl2_e h1
  intro H locs ls hl hP hS
  exact (by subst hi; exact lv_dstore B.1 B.2.1 hd hl hn (by rw [fl2_map]; rfl) (fun ls hl => hk _ _ _ _ h2 H locs ls hl hP hS))
theorem x_dstore_n {i : Fin 4} (B : BdX p R s m args c cells slots ad dA G A SH H0 nL cc own d SC) (hd : decode cc pc = .ok (.dstore_n i, 1)) (hi : (i : Nat) = a) (hn : a + 1 < nL) (h : tD st (fun x r => fl2 a lv (fun t => k ((a, .double x) :: t) r I D))) (hk : ∀ lv st I D, k lv st I D → AtM p l e R s m args below meth c cells slots Q ad dA G A SH H0 nL (pc + 1) lv st I D) : AtM p l e R s m args below meth c cells slots Q ad dA G A SH H0 nL pc lv st I D := by
  obtain ⟨x, r, rfl, h1⟩ := tD_e h
  have h2 := fl2_e h1
  intro H locs ls hl hP hS
  exact lv_dstore_n B.1 B.2.1 hd hi hl hn (by rw [fl2_map]; rfl) (fun ls hl => hk _ _ _ _ h2 H locs ls hl hP hS)
theorem x_iadd (B : BdX p R s m args c cells slots ad dA G A SH H0 nL cc own d SC) (hd : decode cc pc = .ok (.iadd, 1)) (h : t2I st (fun x y r => k lv (.int (x + y) :: r) I D)) (hk : ∀ lv st I D, k lv st I D → AtM p l e R s m args below meth c cells slots Q ad dA G A SH H0 nL (pc + 1) lv st I D) : AtM p l e R s m args below meth c cells slots Q ad dA G A SH H0 nL pc lv st I D := by
  obtain ⟨x, y, r, rfl, h1⟩ := t2I_e h
  exact fun H locs ls hl hP hS => lv_iadd B.1 B.2.1 hd (hk _ _ _ _ h1 H locs ls hl hP hS)
theorem x_isub (B : BdX p R s m args c cells slots ad dA G A SH H0 nL cc own d SC) (hd : decode cc pc = .ok (.isub, 1)) (h : t2I st (fun x y r => k lv (.int (x - y) :: r) I D)) (hk : ∀ lv st I D, k lv st I D → AtM p l e R s m args below meth c cells slots Q ad dA G A SH H0 nL (pc + 1) lv st I D) : AtM p l e R s m args below meth c cells slots Q ad dA G A SH H0 nL pc lv st I D := by
  obtain ⟨x, y, r, rfl, h1⟩ := t2I_e h
  exact fun H locs ls hl hP hS => lv_isub B.1 B.2.1 hd (hk _ _ _ _ h1 H locs ls hl hP hS)
theorem x_imul (B : BdX p R s m args c cells slots ad dA G A SH H0 nL cc own d SC) (hd : decode cc pc = .ok (.imul, 1)) (h : t2I st (fun x y r => k lv (.int (x * y) :: r) I D)) (hk : ∀ lv st I D, k lv st I D → AtM p l e R s m args below meth c cells slots Q ad dA G A SH H0 nL (pc + 1) lv st I D) : AtM p l e R s m args below meth c cells slots Q ad dA G A SH H0 nL pc lv st I D := by
  obtain ⟨x, y, r, rfl, h1⟩ := t2I_e h
  exact fun H locs ls hl hP hS => lv_imul B.1 B.2.1 hd (hk _ _ _ _ h1 H locs ls hl hP hS)
theorem x_iand (B : BdX p R s m args c cells slots ad dA G A SH H0 nL cc own d SC) (hd : decode cc pc = .ok (.iand, 1)) (h : t2I st (fun x y r => k lv (.int (x &&& y) :: r) I D)) (hk : ∀ lv st I D, k lv st I D → AtM p l e R s m args below meth c cells slots Q ad dA G A SH H0 nL (pc + 1) lv st I D) : AtM p l e R s m args below meth c cells slots Q ad dA G A SH H0 nL pc lv st I D := by
  obtain ⟨x, y, r, rfl, h1⟩ := t2I_e h
  exact fun H locs ls hl hP hS => lv_iand B.1 B.2.1 hd (hk _ _ _ _ h1 H locs ls hl hP hS)
theorem x_ixor (B : BdX p R s m args c cells slots ad dA G A SH H0 nL cc own d SC) (hd : decode cc pc = .ok (.ixor, 1)) (h : t2I st (fun x y r => k lv (.int (x ^^^ y) :: r) I D)) (hk : ∀ lv st I D, k lv st I D → AtM p l e R s m args below meth c cells slots Q ad dA G A SH H0 nL (pc + 1) lv st I D) : AtM p l e R s m args below meth c cells slots Q ad dA G A SH H0 nL pc lv st I D := by
  obtain ⟨x, y, r, rfl, h1⟩ := t2I_e h
  exact fun H locs ls hl hP hS => lv_ixor B.1 B.2.1 hd (hk _ _ _ _ h1 H locs ls hl hP hS)
theorem x_idiv (B : BdX p R s m args c cells slots ad dA G A SH H0 nL cc own d SC) (hd : decode cc pc = .ok (.idiv, 1)) (h : t2I st (fun x y r => ¬ y = 0 ∧ k lv (.int (x / y) :: r) I D)) (hk : ∀ lv st I D, k lv st I D → AtM p l e R s m args below meth c cells slots Q ad dA G A SH H0 nL (pc + 1) lv st I D) : AtM p l e R s m args below meth c cells slots Q ad dA G A SH H0 nL pc lv st I D := by
  obtain ⟨x, y, r, rfl, h0, h1⟩ := t2I_e h
  exact fun H locs ls hl hP hS => lv_idiv B.1 B.2.1 hd h0 (hk _ _ _ _ h1 H locs ls hl hP hS)
theorem x_irem (B : BdX p R s m args c cells slots ad dA G A SH H0 nL cc own d SC) (hd : decode cc pc = .ok (.irem, 1)) (h : t2I st (fun x y r => ¬ y = 0 ∧ k lv (.int (x - x / y * y) :: r) I D)) (hk : ∀ lv st I D, k lv st I D → AtM p l e R s m args below meth c cells slots Q ad dA G A SH H0 nL (pc + 1) lv st I D) : AtM p l e R s m args below meth c cells slots Q ad dA G A SH H0 nL pc lv st I D := by
  obtain ⟨x, y, r, rfl, h0, h1⟩ := t2I_e h
  exact fun H locs ls hl hP hS => lv_irem B.1 B.2.1 hd h0 (hk _ _ _ _ h1 H locs ls hl hP hS)
theorem x_ladd (B : BdX p R s m args c cells slots ad dA G A SH H0 nL cc own d SC) (hd : decode cc pc = .ok (.ladd, 1)) (h : t2L st (fun x y r => k lv (.long (x + y) :: r) I D)) (hk : ∀ lv st I D, k lv st I D → AtM p l e R s m args below meth c cells slots Q ad dA G A SH H0 nL (pc + 1) lv st I D) : AtM p l e R s m args below meth c cells slots Q ad dA G A SH H0 nL pc lv st I D := by
  obtain ⟨x, y, r, rfl, h1⟩ := t2L_e h
  exact fun H locs ls hl hP hS => lv_ladd B.1 B.2.1 hd (hk _ _ _ _ h1 H locs ls hl hP hS)
theorem x_lsub (B : BdX p R s m args c cells slots ad dA G A SH H0 nL cc own d SC) (hd : decode cc pc = .ok (.lsub, 1)) (h : t2L st (fun x y r => k lv (.long (x - y) :: r) I D)) (hk : ∀ lv st I D, k lv st I D → AtM p l e R s m args below meth c cells slots Q ad dA G A SH H0 nL (pc + 1) lv st I D) : AtM p l e R s m args below meth c cells slots Q ad dA G A SH H0 nL pc lv st I D := by
  obtain ⟨x, y, r, rfl, h1⟩ := t2L_e h
  exact fun H locs ls hl hP hS => lv_lsub B.1 B.2.1 hd (hk _ _ _ _ h1 H locs ls hl hP hS)
theorem x_lmul (B : BdX p R s m args c cells slots ad dA G A SH H0 nL cc own d SC) (hd : decode cc pc = .ok (.lmul, 1)) (h : t2L st (fun x y r => k lv (.long (x * y) :: r) I D)) (hk : ∀ lv st I D, k lv st I D → AtM p l e R s m args below meth c cells slots Q ad dA G A SH H0 nL (pc + 1) lv st I D) : AtM p l e R s m args below meth c cells slots Q ad dA G A SH H0 nL pc lv st I D := by
  obtain ⟨x, y, r, rfl, h1⟩ := t2L_e h
  exact fun H locs ls hl hP hS => lv_lmul B.1 B.2.1 hd (hk _ _ _ _ h1 H locs ls hl hP hS)
theorem x_land (B : BdX p R s m args c cells slots ad dA G A SH H0 nL cc own d SC) (hd : decode cc pc = .ok (.land, 1)) (h : t2L st (fun x y r => k lv (.long (x &&& y) :: r) I D)) (hk : ∀ lv st I D, k lv st I D → AtM p l e R s m args below meth c cells slots Q ad dA G A SH H0 nL (pc + 1) lv st I D) : AtM p l e R s m args below meth c cells slots Q ad dA G A SH H0 nL pc lv st I D := by
  obtain ⟨x, y, r, rfl, h1⟩ := t2L_e h
  exact fun H locs ls hl hP hS => lv_land B.1 B.2.1 hd (hk _ _ _ _ h1 H locs ls hl hP hS)
theorem x_lor (B : BdX p R s m args c cells slots ad dA G A SH H0 nL cc own d SC) (hd : decode cc pc = .ok (.lor, 1)) (h : t2L st (fun x y r => k lv (.long (x ||| y) :: r) I D)) (hk : ∀ lv st I D, k lv st I D → AtM p l e R s m args below meth c cells slots Q ad dA G A SH H0 nL (pc + 1) lv st I D) : AtM p l e R s m args below meth c cells slots Q ad dA G A SH H0 nL pc lv st I D := by
  obtain ⟨x, y, r, rfl, h1⟩ := t2L_e h
  exact fun H locs ls hl hP hS => lv_lor B.1 B.2.1 hd (hk _ _ _ _ h1 H locs ls hl hP hS)
theorem x_ldiv (B : BdX p R s m args c cells slots ad dA G A SH H0 nL cc own d SC) (hd : decode cc pc = .ok (.ldiv, 1)) (h : t2L st (fun x y r => ¬ y = 0 ∧ k lv (.long (x / y) :: r) I D)) (hk : ∀ lv st I D, k lv st I D → AtM p l e R s m args below meth c cells slots Q ad dA G A SH H0 nL (pc + 1) lv st I D) : AtM p l e R s m args below meth c cells slots Q ad dA G A SH H0 nL pc lv st I D := by
  obtain ⟨x, y, r, rfl, h0, h1⟩ := t2L_e h
  exact fun H locs ls hl hP hS => lv_ldiv B.1 B.2.1 hd h0 (hk _ _ _ _ h1 H locs ls hl hP hS)
theorem x_lcmp (B : BdX p R s m args c cells slots ad dA G A SH H0 nL cc own d SC) (hd : decode cc pc = .ok (.lcmp, 1)) (h : t2L st (fun x y r => k lv (.int (lg_cmp x y) :: r) I D)) (hk : ∀ lv st I D, k lv st I D → AtM p l e R s m args below meth c cells slots Q ad dA G A SH H0 nL (pc + 1) lv st I D) : AtM p l e R s m args below meth c cells slots Q ad dA G A SH H0 nL pc lv st I D := by
  obtain ⟨x, y, r, rfl, h1⟩ := t2L_e h
  exact fun H locs ls hl hP hS => W.lcmp B.1 B.2.1 hd (hk _ _ _ _ h1 H locs ls hl hP hS)
theorem x_dadd (B : BdX p R s m args c cells slots ad dA G A SH H0 nL cc own d SC) (hd : decode cc pc = .ok (.dadd, 1)) (h : t2D st (fun x y r => vf_n64 (FP.dadd x y) ∧ k lv (.double (FP.dadd x y) :: r) I D)) (hk : ∀ lv st I D, k lv st I D → AtM p l e R s m args below meth c cells slots Q ad dA G A SH H0 nL (pc + 1) lv st I D) : AtM p l e R s m args below meth c cells slots Q ad dA G A SH H0 nL pc lv st I D := by
  obtain ⟨x, y, r, rfl, h0, h1⟩ := t2D_e h
  exact fun H locs ls hl hP hS => lv_dadd B.1 B.2.1 hd h0 (hk _ _ _ _ h1 H locs ls hl hP hS)
theorem x_dsub (B : BdX p R s m args c cells slots ad dA G A SH H0 nL cc own d SC) (hd : decode cc pc = .ok (.dsub, 1)) (h : t2D st (fun x y r => vf_n64 (FP.dsub x y) ∧ k lv (.double (FP.dsub x y) :: r) I D)) (hk : ∀ lv st I D, k lv st I D → AtM p l e R s m args below meth c cells slots Q ad dA G A SH H0 nL (pc + 1) lv st I D) : AtM p l e R s m args below meth c cells slots Q ad dA G A SH H0 nL pc lv st I D := by
  obtain ⟨x, y, r, rfl, h0, h1⟩ := t2D_e h
  exact fun H locs ls hl hP hS => lv_dsub B.1 B.2.1 hd h0 (hk _ _ _ _ h1 H locs ls hl hP hS)
theorem x_dmul (B : BdX p R s m args c cells slots ad dA G A SH H0 nL cc own d SC) (hd : decode cc pc = .ok (.dmul, 1)) (h : t2D st (fun x y r => vf_n64 (FP.dmul x y) ∧ k lv (.double (FP.dmul x y) :: r) I D)) (hk : ∀ lv st I D, k lv st I D → AtM p l e R s m args below meth c cells slots Q ad dA G A SH H0 nL (pc + 1) lv st I D) : AtM p l e R s m args below meth c cells slots Q ad dA G A SH H0 nL pc lv st I D := by
  obtain ⟨x, y, r, rfl, h0, h1⟩ := t2D_e h
  exact fun H locs ls hl hP hS => lv_dmul B.1 B.2.1 hd h0 (hk _ _ _ _ h1 H locs ls hl hP hS)
theorem x_ddiv (B : BdX p R s m args c cells slots ad dA G A SH H0 nL cc own d SC) (hd : decode cc pc = .ok (.ddiv, 1)) (h : t2D st (fun x y r => vf_n64 (FP.ddiv x y) ∧ k lv (.double (FP.ddiv x y) :: r) I D)) (hk : ∀ lv st I D, k lv st I D → AtM p l e R s m args below meth c cells slots Q ad dA G A SH H0 nL (pc + 1) lv st I D) : AtM p l e R s m args below meth c cells slots Q ad dA G A SH H0 nL pc lv st I D := by
  obtain ⟨x, y, r, rfl, h0, h1⟩ := t2D_e h
  exact fun H locs ls hl hP hS => lv_ddiv B.1 B.2.1 hd h0 (hk _ _ _ _ h1 H locs ls hl hP hS)
theorem x_ineg (B : BdX p R s m args c cells slots ad dA G A SH H0 nL cc own d SC) (hd : decode cc pc = .ok (.ineg, 1)) (h : tI st (fun x r => k lv (.int (-x) :: r) I D)) (hk : ∀ lv st I D, k lv st I D → AtM p l e R s m args below meth c cells slots Q ad dA G A SH H0 nL (pc + 1) lv st I D) : AtM p l e R s m args below meth c cells slots Q ad dA G A SH H0 nL pc lv st I D := by
  obtain ⟨x, r, rfl, h1⟩ := tI_e h
  exact fun H locs ls hl hP hS => lv_ineg B.1 B.2.1 hd (hk _ _ _ _ h1 H locs ls hl hP hS)
theorem x_i2l (B : BdX p R s m args c cells slots ad dA G A SH H0 nL cc own d SC) (hd : decode cc pc = .ok (.i2l, 1)) (h : tI st (fun x r => k lv (.long (x.toInt64) :: r) I D)) (hk : ∀ lv st I D, k lv st I D → AtM p l e R s m args below meth c cells slots Q ad dA G A SH H0 nL (pc + 1) lv st I D) : AtM p l e R s m args below meth c cells slots Q ad dA G A SH H0 nL pc lv st I D := by
  obtain ⟨x, r, rfl, h1⟩ := tI_e h
  exact fun H locs ls hl hP hS => lv_i2l B.1 B.2.1 hd rfl (hk _ _ _ _ h1 H locs ls hl hP hS)
theorem x_i2d (B : BdX p R s m args c cells slots ad dA G A SH H0 nL cc own d SC) (hd : decode cc pc = .ok (.i2d, 1)) (h : tI st (fun x r => k lv (.double (FP.i2d x) :: r) I D)) (hk : ∀ lv st I D, k lv st I D → AtM p l e R s m args below meth c cells slots Q ad dA G A SH H0 nL (pc + 1) lv st I D) : AtM p l e R s m args below meth c cells slots Q ad dA G A SH H0 nL pc lv st I D := by
  obtain ⟨x, r, rfl, h1⟩ := tI_e h
  exact fun H locs ls hl hP hS => lv_i2d B.1 B.2.1 hd (hk _ _ _ _ h1 H locs ls hl hP hS)
theorem x_i2s (B : BdX p R s m args c cells slots ad dA G A SH H0 nL cc own d SC) (hd : decode cc pc = .ok (.i2s, 1)) (h : tI st (fun x r => k lv (.int (x.toInt16.toInt32) :: r) I D)) (hk : ∀ lv st I D, k lv st I D → AtM p l e R s m args below meth c cells slots Q ad dA G A SH H0 nL (pc + 1) lv st I D) : AtM p l e R s m args below meth c cells slots Q ad dA G A SH H0 nL pc lv st I D := by
  obtain ⟨x, r, rfl, h1⟩ := tI_e h
  exact fun H locs ls hl hP hS => lv_i2s B.1 B.2.1 hd rfl (hk _ _ _ _ h1 H locs ls hl hP hS)
theorem x_l2i (B : BdX p R s m args c cells slots ad dA G A SH H0 nL cc own d SC) (hd : decode cc pc = .ok (.l2i, 1)) (h : tL st (fun x r => k lv (.int (x.toInt32) :: r) I D)) (hk : ∀ lv st I D, k lv st I D → AtM p l e R s m args below meth c cells slots Q ad dA G A SH H0 nL (pc + 1) lv st I D) : AtM p l e R s m args below meth c cells slots Q ad dA G A SH H0 nL pc lv st I D := by
  obtain ⟨x, r, rfl, h1⟩ := tL_e h
  exact fun H locs ls hl hP hS => lv_l2i B.1 B.2.1 hd rfl (hk _ _ _ _ h1 H locs ls hl hP hS)
theorem x_dneg (B : BdX p R s m args c cells slots ad dA G A SH H0 nL cc own d SC) (hd : decode cc pc = .ok (.dneg, 1)) (h : tD st (fun x r => k lv (.double (FP.dneg x) :: r) I D)) (hk : ∀ lv st I D, k lv st I D → AtM p l e R s m args below meth c cells slots Q ad dA G A SH H0 nL (pc + 1) lv st I D) : AtM p l e R s m args below meth c cells slots Q ad dA G A SH H0 nL pc lv st I D := by
  obtain ⟨x, r, rfl, h1⟩ := tD_e h
  exact fun H locs ls hl hP hS => lv_dneg B.1 B.2.1 hd (hk _ _ _ _ h1 H locs ls hl hP hS)
theorem x_fneg (B : BdX p R s m args c cells slots ad dA G A SH H0 nL cc own d SC) (hd : decode cc pc = .ok (.fneg, 1)) (h : tF st (fun x r => k lv (.float (FP.fneg x) :: r) I D)) (hk : ∀ lv st I D, k lv st I D → AtM p l e R s m args below meth c cells slots Q ad dA G A SH H0 nL (pc + 1) lv st I D) : AtM p l e R s m args below meth c cells slots Q ad dA G A SH H0 nL pc lv st I D := by
  obtain ⟨x, r, rfl, h1⟩ := tF_e h
  exact fun H locs ls hl hP hS => lv_fneg B.1 B.2.1 hd (hk _ _ _ _ h1 H locs ls hl hP hS)
theorem x_d2l (B : BdX p R s m args c cells slots ad dA G A SH H0 nL cc own d SC) (hd : decode cc pc = .ok (.d2l, 1)) (h : tD st (fun x r => k lv (.long (FP.d2l x) :: r) I D)) (hk : ∀ lv st I D, k lv st I D → AtM p l e R s m args below meth c cells slots Q ad dA G A SH H0 nL (pc + 1) lv st I D) : AtM p l e R s m args below meth c cells slots Q ad dA G A SH H0 nL pc lv st I D := by
  obtain ⟨x, r, rfl, h1⟩ := tD_e h
  exact fun H locs ls hl hP hS => lv_d2l B.1 B.2.1 hd (hk _ _ _ _ h1 H locs ls hl hP hS)
theorem x_dcmp {o : CmpOp} (B : BdX p R s m args c cells slots ad dA G A SH H0 nL cc own d SC) (hd : decode cc pc = .ok (.dcmp o, 1)) (h : t2D st (fun x y r => k lv (.int (Op.cmpValue (FP.dcmp x y) o) :: r) I D)) (hk : ∀ lv st I D, k lv st I D → AtM p l e R s m args below meth c cells slots Q ad dA G A SH H0 nL (pc + 1) lv st I D) : AtM p l e R s m args below meth c cells slots Q ad dA G A SH H0 nL pc lv st I D := by
  obtain ⟨x, y, r, rfl, h1⟩ := t2D_e h
  exact fun H locs ls hl hP hS => lv_dcmp B.1 B.2.1 hd (hk _ _ _ _ h1 H locs ls hl hP hS)
theorem x_fcmp {o : CmpOp} (B : BdX p R s m args c cells slots ad dA G A SH H0 nL cc own d SC) (hd : decode cc pc = .ok (.fcmp o, 1)) (h : t2F st (fun x y r => k lv (.int (Op.cmpValue (FP.fcmp x y) o) :: r) I D)) (hk : ∀ lv st I D, k lv st I D → AtM p l e R s m args below meth c cells slots Q ad dA G A SH H0 nL (pc + 1) lv st I D) : AtM p l e R s m args below meth c cells slots Q ad dA G A SH H0 nL pc lv st I D := by
  obtain ⟨x, y, r, rfl, h1⟩ := t2F_e h
  exact fun H locs ls hl hP hS => lv_fcmp B.1 B.2.1 hd (hk _ _ _ _ h1 H locs ls hl hP hS)
theorem x_lshl (B : BdX p R s m args c cells slots ad dA G A SH H0 nL cc own d SC) (hd : decode cc pc = .ok (.lshl, 1)) (h : tI st (fun y r => tL r (fun x r => k lv (.long (x <<< (y.toInt64 &&& 63)) :: r) I D))) (hk : ∀ lv st I D, k lv st I D → AtM p l e R s m args below meth c cells slots Q ad dA G A SH H0 nL (pc + 1) lv st I D) : AtM p l e R s m args below meth c cells slots Q ad dA G A SH H0 nL pc lv st I D := by
  obtain ⟨y, r, rfl, h1⟩ := tI_e h
  obtain ⟨x, r, rfl, h1⟩ := tL_e h1
  exact fun H locs ls hl hP hS => lv_lshl B.1 B.2.1 hd rfl (hk _ _ _ _ h1 H locs ls hl hP hS)
theorem x_dup (B : BdX p R s m args c cells slots ad dA G A SH H0 nL cc own d SC) (hd : decode cc pc = .ok (.dup, 1)) (h : dup1 st (fun v r => k lv (v :: v :: r) I D)) (hk : ∀ lv st I D, k lv st I D → AtM p l e R s m args below meth c cells slots Q ad dA G A SH H0 nL (pc + 1) lv st I D) : AtM p l e R s m args below meth c cells slots Q ad dA G A SH H0 nL pc lv st I D := by
  obtain ⟨v, r, rfl, hc, h1⟩ := dup1_e h
  exact fun H locs ls hl hP hS => lv_dup B.1 B.2.1 hd (by rw [cv_cat]; exact hc) (hk _ _ _ _ h1 H locs ls hl hP hS)
theorem x_pop (B : BdX p R s m args c cells slots ad dA G A SH H0 nL cc own d SC) (hd : decode cc pc = .ok (.pop, 1)) (h : dup1 st (fun _ r => k lv r I D)) (hk : ∀ lv st I D, k lv st I D → AtM p l e R s m args below meth c cells slots Q ad dA G A SH H0 nL (pc + 1) lv st I D) : AtM p l e R s m args below meth c cells slots Q ad dA G A SH H0 nL pc lv st I D := by
  obtain ⟨v, r, rfl, hc, h1⟩ := dup1_e h
  exact fun H locs ls hl hP hS => lv_pop B.1 B.2.1 hd (by rw [cv_cat]; exact hc) (hk _ _ _ _ h1 H locs ls hl hP hS)
theorem x_dup2 (B : BdX p R s m args c cells slots ad dA G A SH H0 nL cc own d SC) (hd : decode cc pc = .ok (.dup2, 1)) (h : dup11 st (fun v w r => k lv (v :: w :: v :: w :: r) I D)) (hk : ∀ lv st I D, k lv st I D → AtM p l e R s m args below meth c cells slots Q ad dA G A SH H0 nL (pc + 1) lv st I D) : AtM p l e R s m args below meth c cells slots Q ad dA G A SH H0 nL pc lv st I D := by
  obtain ⟨v, w, r, rfl, hc, hc2, h1⟩ := dup11_e h
  exact fun H locs ls hl hP hS => lv_dup2_11 B.1 B.2.1 hd (by rw [cv_cat]; exact hc) (by rw [cv_cat]; exact hc2) (hk _ _ _ _ h1 H locs ls hl hP hS)
theorem x_goto {o : Int} (B : BdX p R s m args c cells slots ad dA G A SH H0 nL cc own d SC) (hd : decode cc pc = .ok (.goto o, 3)) (ht : (pc : Int) + o = (a : Int)) (h : AtM p l e R s m args below meth c cells slots Q ad dA G A SH H0 nL a lv st I D) : AtM p l e R s m args below meth c cells slots Q ad dA G A SH H0 nL pc lv st I D :=
  fun H locs ls hl hP hS => lv_goto B.1 B.2.1 hd ht (h H locs ls hl hP hS)
theorem x_if {cd : ClassFile.Cond} {o : Int} {jp : Kt} (B : BdX p R s m args c cells slots ad dA G A SH H0 nL cc own d SC) (hd : decode cc pc = .ok (.ifCond cd o, 3)) (ht : (pc : Int) + o = (a : Int)) (h : tI st (fun x r => xif cd x (jp a lv r I D) (k lv r I D))) (hj : ∀ t lv st I D, jp t lv st I D → AtM p l e R s m args below meth c cells slots Q ad dA G A SH H0 nL t lv st I D) (hk : ∀ lv st I D, k lv st I D → AtM p l e R s m args below meth c cells slots Q ad dA G A SH H0 nL (pc + 3) lv st I D) : AtM p l e R s m args below meth c cells slots Q ad dA G A SH H0 nL pc lv st I D := by
  obtain ⟨x, r, rfl, h1⟩ := tI_e h
  intro H locs ls hl hP hS
  cases cd
  · exact lv_if_eq B.1 B.2.1 hd ht (fun q => hj _ _ _ _ _ (h1.1 q) H locs ls hl hP hS) (fun q => hk _ _ _ _ (h1.2 q) H locs ls hl hP hS)
  · exact lv_if_ne B.1 B.2.1 hd ht (fun q => hj _ _ _ _ _ (h1.1 q) H locs ls hl hP hS) (fun q => hk _ _ _ _ (h1.2 q) H locs ls hl hP hS)
  · exact lv_if_lt B.1 B.2.1 hd ht (fun q => hj _ _ _ _ _ (h1.1 q) H locs ls hl hP hS) (fun q => hk _ _ _ _ (h1.2 q) H locs ls hl hP hS)
  · exact lv_if_ge B.1 B.2.1 hd ht (fun q => hj _ _ _ _ _ (h1.1 q) H locs ls hl hP hS) (fun q => hk _ _ _ _ (h1.2 q) H locs ls hl hP hS)
  · exact lv_if_gt B.1 B.2.1 hd ht (fun q => hj _ _ _ _ _ (h1.1 q) H locs ls hl hP hS) (fun q => hk _ _ _ _ (h1.2 q) H locs ls hl hP hS)
  · exact lv_if_le B.1 B.2.1 hd ht (fun q => hj _ _ _ _ _ (h1.1 q) H locs ls hl hP hS) (fun q => hk _ _ _ _ (h1.2 q) H locs ls hl hP hS)
theorem x_icmp {cd : ClassFile.Cond} {o : Int} {jp : Kt} (B : BdX p R s m args c cells slots ad dA G A SH H0 nL cc own d SC) (hd : decode cc pc = .ok (.if_icmp cd o, 3)) (ht : (pc : Int) + o = (a : Int)) (h : t2I st (fun x y r => xic cd x y (jp a lv r I D) (k lv r I D))) (hj : ∀ t lv st I D, jp t lv st I D → AtM p l e R s m args below meth c cells slots Q ad dA G A SH H0 nL t lv st I D) (hk : ∀ lv st I D, k lv st I D → AtM p l e R s m args below meth c cells slots Q ad dA G A SH H0 nL (pc + 3) lv st I D) : AtM p l e R s m args below meth c cells slots Q ad dA G A SH H0 nL pc lv st I D := by
  obtain ⟨x, y, r, rfl, h1⟩ := t2I_e h
  intro H locs ls hl hP hS
  cases cd
  · exact lv_icmp_eq B.1 B.2.1 hd ht (fun q => hj _ _ _ _ _ (h1.1 q) H locs ls hl hP hS) (fun q => hk _ _ _ _ (h1.2 q) H locs ls hl hP hS)
  · exact lv_icmp_ne B.1 B.2.1 hd ht (fun q => hj _ _ _ _ _ (h1.1 q) H locs ls hl hP hS) (fun q => hk _ _ _ _ (h1.2 q) H locs ls hl hP hS)
  · exact lv_icmp_lt B.1 B.2.1 hd ht (fun q => hj _ _ _ _ _ (h1.1 q) H locs ls hl hP hS) (fun q => hk _ _ _ _ (h1.2 q) H locs ls hl hP hS)
  · exact lv_icmp_ge B.1 B.2.1 hd ht (fun q => hj _ _ _ _ _ (h1.1 q) H locs ls hl hP hS) (fun q => hk _ _ _ _ (h1.2 q) H locs ls hl hP hS)
  · exact lv_icmp_gt B.1 B.2.1 hd ht (fun q => hj _ _ _ _ _ (h1.1 q) H locs ls hl hP hS) (fun q => hk _ _ _ _ (h1.2 q) H locs ls hl hP hS)
  · exact lv_icmp_le B.1 B.2.1 hd ht (fun q => hj _ _ _ _ _ (h1.1 q) H locs ls hl hP hS) (fun q => hk _ _ _ _ (h1.2 q) H locs ls hl hP hS)
theorem x_iinc {i : Nat} {n : Int} {cst : Int32} (B : BdX p R s m args c cells slots ad dA G A SH H0 nL cc own d SC) (hd : decode cc pc = .ok (.iinc i n, 3)) (hi : i = a) (hv : Int32.ofInt n = cst) (hn : a < nL) (h : xinc a (.int cst) lv (fun t => k t st I D)) (hk : ∀ lv st I D, k lv st I D → AtM p l e R s m args below meth c cells slots Q ad dA G A SH H0 nL (pc + 3) lv st I D) : AtM p l e R s m args below meth c cells slots Q ad dA G A SH H0 nL pc lv st I D := by
  obtain ⟨w, h1, h2⟩ := lk_e h
  subst hi
  cases w with
  | int x =>
    have h3 := fl1_e h2
    intro H locs ls hl hP hS
    have hm : (i, Value.int x) ∈ lv.map (cq ad) := List.mem_map.mpr ⟨_, h1, rfl⟩
    obtain ⟨j, hj⟩ := List.getElem?_of_mem hm
    exact lv_iinc (k := j) B.1 B.2.1 hd hl hj (by rw [hv]) hn (by rw [fl1_map]; rfl) (fun ls hl => hk _ _ _ _ h3 H locs ls hl hP hS)
  | _ => exact h2.elim
end RW
