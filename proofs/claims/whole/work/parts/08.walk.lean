/-! the check of a resolved instruction against the bytes, and the walk of a stretch -/
def okv (own : String) (P : Pl) (n : Nat) (v : Value) : Bool := P.2.2.1.any (fun q => Nat.beq q.1 n && decide (q.2.1 = v))
def isIF (v : Value) : Bool := match v with
  | .int _ => true
  | .float _ => true
  | _ => false
def isLD (v : Value) : Bool := match v with
  | .long _ => true
  | .double _ => true
  | _ => false
def okf (P : Pl) (n a b : Nat) : Bool := Nat.blt a 13 && Nat.blt b (cT a).2.2 && P.2.1.any (fun q => Nat.beq q.1 n && Nat.beq q.2.1 a && Nat.beq q.2.2.1 b)
def okc (P : Pl) (n a b : Nat) (st : Bool) (ci : Nat) : Bool := match nth MT a with
  | some q => Nat.beq q.2.2.2.2.1 b && (q.2.2.2.2.2.1 == st) && Nat.beq q.2.2.2.2.2.2.1 ci && P.2.2.2.1.any (fun z => Nat.beq z.1 n && Nat.beq z.2.1 a)
  | none => false
def okn (P : Pl) (n t : Nat) : Bool := P.2.2.2.2.any (fun z => Nat.beq z.1 n && Nat.beq z.2.1 t)
/-- pc: the place; nx: the place behind it -/
def okI (P : Pl) (rt : Option FieldType) (nL pc nx : Nat) (i : Instr) (a b : Nat) (v : Value) : Bool := match i with
  | .iconst n => Nat.beq nx (pc + 1) && decide (v = .int (Int32.ofInt n))
  | .bipush n => Nat.beq nx (pc + 2) && decide (v = .int (Int8.ofInt n).toInt32)
  | .sipush n => Nat.beq nx (pc + 3) && decide (v = .int (Int16.ofInt n).toInt32)
  | .lconst n => Nat.beq nx (pc + 1) && decide (v = .long (Int64.ofNat n.val))
  | .dconst n => Nat.beq nx (pc + 1) && decide (v = .double (if n = 0 then FP.dconst0 else FP.dconst1))
  | .fconst n => Nat.beq nx (pc + 1) && decide (n = 0) && decide (v = .float FP.fconst0)
  | .ldc n => Nat.beq nx (pc + 2) && okv P.1 P n v && isIF v
  | .ldc_w n => Nat.beq nx (pc + 3) && okv P.1 P n v && isIF v
  | .ldc2_w n => Nat.beq nx (pc + 3) && okv P.1 P n v && isLD v
  | .iload n => Nat.beq nx (pc + 2) && Nat.beq n a
  | .iload_n n => Nat.beq nx (pc + 1) && Nat.beq n.val a
  | .lload n => Nat.beq nx (pc + 2) && Nat.beq n a
  | .lload_n n => Nat.beq nx (pc + 1) && Nat.beq n.val a
  | .fload n => Nat.beq nx (pc + 2) && Nat.beq n a
  | .dload n => Nat.beq nx (pc + 2) && Nat.beq n a
  | .dload_n n => Nat.beq nx (pc + 1) && Nat.beq n.val a
  | .aload n => Nat.beq nx (pc + 2) && Nat.beq n a
  | .aload_n n => Nat.beq nx (pc + 1) && Nat.beq n.val a
  | .istore n => Nat.beq nx (pc + 2) && Nat.beq n a && Nat.blt a nL
  | .istore_n n => Nat.beq nx (pc + 1) && Nat.beq n.val a && Nat.blt a nL
  | .lstore n => Nat.beq nx (pc + 2) && Nat.beq n a && Nat.blt (a + 1) nL
  | .fstore n => Nat.beq nx (pc + 2) && Nat.beq n a && Nat.blt a nL
  | .dstore n => Nat.beq nx (pc + 2) && Nat.beq n a && Nat.blt (a + 1) nL
  | .dstore_n n => Nat.beq nx (pc + 1) && Nat.beq n.val a && Nat.blt (a + 1) nL
  | .iinc n c => Nat.beq nx (pc + 3) && Nat.beq n a && Nat.blt a nL && decide (v = .int (Int32.ofInt c))
  | .getfield n => Nat.beq nx (pc + 3) && okf P n a b
  | .putfield n => Nat.beq nx (pc + 3) && okf P n a b && !((cT a).2.1 b).2.2.2 && (match v with
    | .null => decide (parseFieldDescriptor ((cT a).2.1 b).2.2.1 = some .int)
    | .ref 1 => decide (parseFieldDescriptor ((cT a).2.1 b).2.2.1 = some .boolean)
    | .ref 2 => decide (parseFieldDescriptor ((cT a).2.1 b).2.2.1 = some .double)
    | _ => false)
  | .goto o => Nat.beq nx (pc + 3) && decide ((pc : Int) + o = (a : Int))
  | .ifCond _ o => Nat.beq nx (pc + 3) && decide ((pc : Int) + o = (a : Int))
  | .if_icmp _ o => Nat.beq nx (pc + 3) && decide ((pc : Int) + o = (a : Int))
  | .tableswitch d lo hi offs => decide ((offs.toList.length : Int) = hi - lo + 1) && (d :: offs.toList).all (fun o => decide (0 ≤ (pc : Int) + o))
  | .lookupswitch d ps => (ps.toList.zip (ps.toList.drop 1)).all (fun (a, next) => a.1 < next.1) && (d :: ps.toList.map (fun q => q.2)).all (fun o => decide (0 ≤ (pc : Int) + o))
  | .invokestatic n => Nat.beq nx (pc + 3) && (match v with
    | .ref 0 => okc P n a b true 99 || okc P n a b true (match nth MT a with
      | some q => q.2.2.2.2.2.2.1
      | none => 0)
    | .ref 1 => okn P n 1
    | .ref 2 => okn P n 2
    | _ => false)
  | .invokevirtual n => Nat.beq nx (pc + 3) && (match v with
    | .ref ci => okc P n a b false ci
    | _ => false)
  | .ireturn => Nat.beq nx (pc + 1) && (match a with
    | 1 => decide (rt = some .boolean)
    | _ => decide (rt = some .int))
  | .lreturn => Nat.beq nx (pc + 1) && decide (rt = some .long)
  | .dreturn => Nat.beq nx (pc + 1) && decide (rt = some .double)
  | .return_ => Nat.beq nx (pc + 1) && decide (rt = none)
  | _ => Nat.beq nx (pc + 1)
def hdp (e : Nat) : List Op → Nat
  | [] => e
  | q :: _ => q.1
def okS (P : Pl) (rt : Option FieldType) (nL : Nat) (cc : ByteArray) (e : Nat) : List Op → Bool
  | [] => true
  | q :: r => decide (decode cc q.1 = .ok (q.2.1, hdp e r - q.1)) && okI P rt nL q.1 (hdp e r) q.2.1 q.2.2.1 q.2.2.2.1 q.2.2.2.2 && okS P rt nL cc e r
theorem okv_e {P : Pl} (hP : PlOk P) {n : Nat} {v : Value} (h : okv P.1 P n v = true) : ∃ t o, wC P.1 (n, v, t, o) ∈ gt := by
  unfold okv at h
  obtain ⟨q, hq, h1⟩ := List.any_eq_true.mp h
  simp only [Bool.and_eq_true, decide_eq_true_eq] at h1
  have e1 := Nat.eq_of_beq_eq_true h1.1
  obtain ⟨n', v', t, o⟩ := q
  dsimp only at e1 h1
  obtain ⟨-, rfl⟩ := h1
  subst e1
  exact ⟨t, o, pl_c hP hq⟩
theorem okf_e {P : Pl} (hP : PlOk P) {n a b : Nat} (h : okf P n a b = true) : a < 13 ∧ b < (cT a).2.2 ∧ ∃ z t o, wF P.1 (n, a, b, z, t, o) ∈ lw_tbl := by
  unfold okf at h
  simp only [Bool.and_eq_true] at h
  obtain ⟨⟨h1, h2⟩, h3⟩ := h
  refine ⟨by simpa [Nat.blt_eq] using h1, by simpa [Nat.blt_eq] using h2, ?_⟩
  obtain ⟨q, hq, h4⟩ := List.any_eq_true.mp h3
  simp only [Bool.and_eq_true] at h4
  obtain ⟨⟨h5, h6⟩, h7⟩ := h4
  obtain ⟨n', a', b', z, t, o⟩ := q
  have e1 := Nat.eq_of_beq_eq_true h5
  have e2 := Nat.eq_of_beq_eq_true h6
  have e3 := Nat.eq_of_beq_eq_true h7
  dsimp only at e1 e2 e3
  subst e1; subst e2; subst e3
  exact ⟨z, t, o, pl_f hP hq⟩
theorem okc_e {P : Pl} (hP : PlOk P) {n a b ci : Nat} {st : Bool} (h : okc P n a b st ci = true) : ∃ q, nth MT a = some q ∧ q.2.2.2.2.1 = b ∧ q.2.2.2.2.2.1 = st ∧ q.2.2.2.2.2.2.1 = ci ∧ Cond.methodLink P.1 n q.1 ∈ gt := by
  unfold okc at h
  cases hq : nth MT a with
  | none => rw [hq] at h; cases h
  | some q =>
    rw [hq] at h
    simp only [Bool.and_eq_true, beq_iff_eq] at h
    obtain ⟨⟨⟨h1, h2⟩, h3⟩, h4⟩ := h
    obtain ⟨z, hz, h5⟩ := List.any_eq_true.mp h4
    simp only [Bool.and_eq_true] at h5
    obtain ⟨n', a', t, o⟩ := z
    have e1 := Nat.eq_of_beq_eq_true h5.1
    have e2 := Nat.eq_of_beq_eq_true h5.2
    dsimp only at e1 e2
    subst e1; subst e2
    have h6 := pl_m hP hz
    unfold wM at h6
    dsimp only at h6
    rw [hq] at h6
    exact ⟨q, rfl, Nat.eq_of_beq_eq_true h1, h2, Nat.eq_of_beq_eq_true h3, h6⟩
theorem okn_e {P : Pl} (hP : PlOk P) {n t : Nat} (h : okn P n t = true) : Cond.methodLink P.1 n (yN t) ∈ gt := by
  unfold okn at h
  obtain ⟨z, hz, h5⟩ := List.any_eq_true.mp h
  simp only [Bool.and_eq_true] at h5
  obtain ⟨n', a', t', o⟩ := z
  have e1 := Nat.eq_of_beq_eq_true h5.1
  have e2 := Nat.eq_of_beq_eq_true h5.2
  dsimp only at e1 e2
  subst e1; subst e2
  exact pl_n hP hz
theorem dec_at {cc : ByteArray} {pc nx n : Nat} {i : Instr} (hd : decode cc pc = .ok (i, nx - pc)) (h : nx = pc + n) : decode cc pc = .ok (i, n) := by
  rw [hd, h, Nat.add_sub_cancel_left]
section RX
variable {p : Program} {l : Launch} {e : Env} {R : Room} {s : State} {m : MethodId} {args : Array Value} {below : List Frame} {meth : Method} {c : Code} {cells slots : Nat} {Q : State → Prop}
variable {ad : Nat → Nat} {dA : Nat → ClassId} {G : va_G} {A : Nat → Prop} {SH : List Sh} {H0 : Heap} {nL : Nat} {cc : ByteArray} {d : Nat} {SC : Option (Nat × (Nat → Int32))} {P : Pl} {rt : Option FieldType}
set_option maxHeartbeats 4000000 in
theorem ex_sound {Rt : Rk} {pc nx : Nat} {i : Instr} {a b : Nat} {v : Value} {lv : Lv} {st : List Value} {I : MI} {D : MD} {nk : Nt} {jk : Kt} (hP : PlOk P) (B : BdX p R s m args c cells slots ad dA G A SH H0 nL cc P.1 d SC) (hAd : AdOk ad A SH.length)
    (hd : decode cc pc = .ok (i, nx - pc)) (hok : okI P rt nL pc nx i a b v = true)
    (h : ex SH SC Rt (CaD (l, ad, dA, G, A) SH d) pc i a b v lv st I D nk jk) (hn : ∀ lv st I D, nk lv st I D → AtM p l e R s m args below meth c cells slots Q ad dA G A SH H0 nL nx lv st I D) (hj : ∀ t lv st I D, jk t lv st I D → AtM p l e R s m args below meth c cells slots Q ad dA G A SH H0 nL t lv st I D)
    (hR : ∀ pc i a lv st I D, (i = .ireturn ∨ i = .lreturn ∨ i = .dreturn ∨ i = .return_) → decode cc pc = .ok (i, 1) → okI P rt nL pc (pc + 1) i a 0 .null = true → Rt i a st I D → AtM p l e R s m args below meth c cells slots Q ad dA G A SH H0 nL pc lv st I D) : AtM p l e R s m args below meth c cells slots Q ad dA G A SH H0 nL pc lv st I D := by
  cases i
  case iconst n =>
    simp only [okI, Bool.and_eq_true, decide_eq_true_eq] at hok
    have e1 := Nat.eq_of_beq_eq_true hok.1
    rw [hok.2] at h
    exact x_iconst B (dec_at hd e1) rfl (e1 ▸ hn _ _ _ _ h)
  case bipush n =>
    simp only [okI, Bool.and_eq_true, decide_eq_true_eq] at hok
    have e1 := Nat.eq_of_beq_eq_true hok.1
    rw [hok.2] at h
    exact x_bipush B (dec_at hd e1) rfl (e1 ▸ hn _ _ _ _ h)
  case sipush n =>
    simp only [okI, Bool.and_eq_true, decide_eq_true_eq] at hok
    have e1 := Nat.eq_of_beq_eq_true hok.1
    rw [hok.2] at h
    exact x_sipush B (dec_at hd e1) rfl (e1 ▸ hn _ _ _ _ h)
  case lconst n =>
    simp only [okI, Bool.and_eq_true, decide_eq_true_eq] at hok
    have e1 := Nat.eq_of_beq_eq_true hok.1
    rw [hok.2] at h
    exact x_lconst B (dec_at hd e1) rfl (e1 ▸ hn _ _ _ _ h)
  case dconst n =>
    simp only [okI, Bool.and_eq_true, decide_eq_true_eq] at hok
    have e1 := Nat.eq_of_beq_eq_true hok.1
    rw [hok.2] at h
    exact x_dconst B (dec_at hd e1) rfl (e1 ▸ hn _ _ _ _ h)
  case fconst n =>
    simp only [okI, Bool.and_eq_true, decide_eq_true_eq] at hok
    obtain ⟨⟨h1, rfl⟩, h3⟩ := hok
    have e1 := Nat.eq_of_beq_eq_true h1
    rw [h3] at h
    exact x_fconst B (dec_at hd e1) rfl (e1 ▸ hn _ _ _ _ h)
  case ldc n =>
    simp only [okI, Bool.and_eq_true] at hok
    have e1 := Nat.eq_of_beq_eq_true hok.1.1
    obtain ⟨t, o, hw⟩ := okv_e hP hok.1.2
    cases v with
    | int x => exact x_ldc B (dec_at hd e1) hw (e1 ▸ hn _ _ _ _ h)
    | float x => exact x_ldcf B (dec_at hd e1) hw (e1 ▸ hn _ _ _ _ h)
    | _ => cases hok.2
  case ldc_w n =>
    simp only [okI, Bool.and_eq_true] at hok
    have e1 := Nat.eq_of_beq_eq_true hok.1.1
    obtain ⟨t, o, hw⟩ := okv_e hP hok.1.2
    cases v with
    | int x => exact x_ldcw B (dec_at hd e1) hw (e1 ▸ hn _ _ _ _ h)
    | float x => exact x_ldcwf B (dec_at hd e1) hw (e1 ▸ hn _ _ _ _ h)
    | _ => cases hok.2
  case ldc2_w n =>
    simp only [okI, Bool.and_eq_true] at hok
    have e1 := Nat.eq_of_beq_eq_true hok.1.1
    obtain ⟨t, o, hw⟩ := okv_e hP hok.1.2
    cases v with
    | long x => exact x_ldc2 B (dec_at hd e1) hw (e1 ▸ hn _ _ _ _ h)
    | double x => exact x_ldc2d B (dec_at hd e1) hw (e1 ▸ hn _ _ _ _ h)
    | _ => cases hok.2
  case iload n =>
    simp only [okI, Bool.and_eq_true] at hok
    have e1 := Nat.eq_of_beq_eq_true hok.1
    exact x_iload B (dec_at hd e1) (Nat.eq_of_beq_eq_true hok.2) h (fun _ _ _ _ q => e1 ▸ hn _ _ _ _ q)
  case iload_n n =>
    simp only [okI, Bool.and_eq_true] at hok
    have e1 := Nat.eq_of_beq_eq_true hok.1
    exact x_iload_n B (dec_at hd e1) (Nat.eq_of_beq_eq_true hok.2) h (fun _ _ _ _ q => e1 ▸ hn _ _ _ _ q)
  case lload n =>
    simp only [okI, Bool.and_eq_true] at hok
    have e1 := Nat.eq_of_beq_eq_true hok.1
    exact x_lload B (dec_at hd e1) (Nat.eq_of_beq_eq_true hok.2) h (fun _ _ _ _ q => e1 ▸ hn _ _ _ _ q)
  case lload_n n =>
    simp only [okI, Bool.and_eq_true] at hok
    have e1 := Nat.eq_of_beq_eq_true hok.1
    exact x_lload_n B (dec_at hd e1) (Nat.eq_of_beq_eq_true hok.2) h (fun _ _ _ _ q => e1 ▸ hn _ _ _ _ q)
  case fload n =>
    simp only [okI, Bool.and_eq_true] at hok
    have e1 := Nat.eq_of_beq_eq_true hok.1
    exact x_fload B (dec_at hd e1) (Nat.eq_of_beq_eq_true hok.2) h (fun _ _ _ _ q => e1 ▸ hn _ _ _ _ q)
  case dload n =>
    simp only [okI, Bool.and_eq_true] at hok
    have e1 := Nat.eq_of_beq_eq_true hok.1
    exact x_dload B (dec_at hd e1) (Nat.eq_of_beq_eq_true hok.2) h (fun _ _ _ _ q => e1 ▸ hn _ _ _ _ q)
  case dload_n n =>
    simp only [okI, Bool.and_eq_true] at hok
    have e1 := Nat.eq_of_beq_eq_true hok.1
    exact x_dload_n B (dec_at hd e1) (Nat.eq_of_beq_eq_true hok.2) h (fun _ _ _ _ q => e1 ▸ hn _ _ _ _ q)
  case aload n =>
    simp only [okI, Bool.and_eq_true] at hok
    have e1 := Nat.eq_of_beq_eq_true hok.1
    exact x_aload B (dec_at hd e1) (Nat.eq_of_beq_eq_true hok.2) h (fun _ _ _ _ q => e1 ▸ hn _ _ _ _ q)
  case aload_n n =>
    simp only [okI, Bool.and_eq_true] at hok
    have e1 := Nat.eq_of_beq_eq_true hok.1
    exact x_aload_n B (dec_at hd e1) (Nat.eq_of_beq_eq_true hok.2) h (fun _ _ _ _ q => e1 ▸ hn _ _ _ _ q)
  case istore n =>
    simp only [okI, Bool.and_eq_true] at hok
    have e1 := Nat.eq_of_beq_eq_true hok.1.1
    exact x_istore B (dec_at hd e1) (Nat.eq_of_beq_eq_true hok.1.2) (by simpa [Nat.blt_eq] using hok.2) h (fun _ _ _ _ q => e1 ▸ hn _ _ _ _ q)
  case istore_n n =>
    simp only [okI, Bool.and_eq_true] at hok
    have e1 := Nat.eq_of_beq_eq_true hok.1.1
    exact x_istore_n B (dec_at hd e1) (Nat.eq_of_beq_eq_true hok.1.2) (by simpa [Nat.blt_eq] using hok.2) h (fun _ _ _ _ q => e1 ▸ hn _ _ _ _ q)
  case lstore n =>
    simp only [okI, Bool.and_eq_true] at hok
    have e1 := Nat.eq_of_beq_eq_true hok.1.1
    exact x_lstore B (dec_at hd e1) (Nat.eq_of_beq_eq_true hok.1.2) (by simpa [Nat.blt_eq] using hok.2) h (fun _ _ _ _ q => e1 ▸ hn _ _ _ _ q)
  case fstore n =>
    simp only [okI, Bool.and_eq_true] at hok
    have e1 := Nat.eq_of_beq_eq_true hok.1.1
    exact x_fstore B (dec_at hd e1) (Nat.eq_of_beq_eq_true hok.1.2) (by simpa [Nat.blt_eq] using hok.2) h (fun _ _ _ _ q => e1 ▸ hn _ _ _ _ q)
  case dstore n =>
    simp only [okI, Bool.and_eq_true] at hok
    have e1 := Nat.eq_of_beq_eq_true hok.1.1
    exact x_dstore B (dec_at hd e1) (Nat.eq_of_beq_eq_true hok.1.2) (by simpa [Nat.blt_eq] using hok.2) h (fun _ _ _ _ q => e1 ▸ hn _ _ _ _ q)
  case dstore_n n =>
    simp only [okI, Bool.and_eq_true] at hok
    have e1 := Nat.eq_of_beq_eq_true hok.1.1
    exact x_dstore_n B (dec_at hd e1) (Nat.eq_of_beq_eq_true hok.1.2) (by simpa [Nat.blt_eq] using hok.2) h (fun _ _ _ _ q => e1 ▸ hn _ _ _ _ q)
  case iinc n z =>
    simp only [okI, Bool.and_eq_true, decide_eq_true_eq] at hok
    have e1 := Nat.eq_of_beq_eq_true hok.1.1.1
    rw [hok.2] at h
    exact x_iinc B (dec_at hd e1) (Nat.eq_of_beq_eq_true hok.1.1.2) rfl (by simpa [Nat.blt_eq] using hok.1.2) h (fun _ _ _ _ q => e1 ▸ hn _ _ _ _ q)
  case iadd =>
    have e1 := Nat.eq_of_beq_eq_true hok
    exact x_iadd B (dec_at hd e1) h (fun _ _ _ _ q => e1 ▸ hn _ _ _ _ q)
  case isub =>
    have e1 := Nat.eq_of_beq_eq_true hok
    exact x_isub B (dec_at hd e1) h (fun _ _ _ _ q => e1 ▸ hn _ _ _ _ q)
  case imul =>
    have e1 := Nat.eq_of_beq_eq_true hok
    exact x_imul B (dec_at hd e1) h (fun _ _ _ _ q => e1 ▸ hn _ _ _ _ q)
  case iand =>
    have e1 := Nat.eq_of_beq_eq_true hok
    exact x_iand B (dec_at hd e1) h (fun _ _ _ _ q => e1 ▸ hn _ _ _ _ q)
  case ixor =>
    have e1 := Nat.eq_of_beq_eq_true hok
    exact x_ixor B (dec_at hd e1) h (fun _ _ _ _ q => e1 ▸ hn _ _ _ _ q)
  case idiv =>
    have e1 := Nat.eq_of_beq_eq_true hok
    exact x_idiv B (dec_at hd e1) h (fun _ _ _ _ q => e1 ▸ hn _ _ _ _ q)
  case irem =>
    have e1 := Nat.eq_of_beq_eq_true hok
    exact x_irem B (dec_at hd e1) h (fun _ _ _ _ q => e1 ▸ hn _ _ _ _ q)
  case ineg =>
    have e1 := Nat.eq_of_beq_eq_true hok
    exact x_ineg B (dec_at hd e1) h (fun _ _ _ _ q => e1 ▸ hn _ _ _ _ q)
  case i2l =>
    have e1 := Nat.eq_of_beq_eq_true hok
    exact x_i2l B (dec_at hd e1) h (fun _ _ _ _ q => e1 ▸ hn _ _ _ _ q)
  case i2d =>
    have e1 := Nat.eq_of_beq_eq_true hok
    exact x_i2d B (dec_at hd e1) h (fun _ _ _ _ q => e1 ▸ hn _ _ _ _ q)
  case i2s =>
    have e1 := Nat.eq_of_beq_eq_true hok
    exact x_i2s B (dec_at hd e1) h (fun _ _ _ _ q => e1 ▸ hn _ _ _ _ q)
  case l2i =>
    have e1 := Nat.eq_of_beq_eq_true hok
    exact x_l2i B (dec_at hd e1) h (fun _ _ _ _ q => e1 ▸ hn _ _ _ _ q)
  case ladd =>
    have e1 := Nat.eq_of_beq_eq_true hok
    exact x_ladd B (dec_at hd e1) h (fun _ _ _ _ q => e1 ▸ hn _ _ _ _ q)
  case lsub =>
    have e1 := Nat.eq_of_beq_eq_true hok
    exact x_lsub B (dec_at hd e1) h (fun _ _ _ _ q => e1 ▸ hn _ _ _ _ q)
  case lmul =>
    have e1 := Nat.eq_of_beq_eq_true hok
    exact x_lmul B (dec_at hd e1) h (fun _ _ _ _ q => e1 ▸ hn _ _ _ _ q)
  case land =>
    have e1 := Nat.eq_of_beq_eq_true hok
    exact x_land B (dec_at hd e1) h (fun _ _ _ _ q => e1 ▸ hn _ _ _ _ q)
  case lor =>
    have e1 := Nat.eq_of_beq_eq_true hok
    exact x_lor B (dec_at hd e1) h (fun _ _ _ _ q => e1 ▸ hn _ _ _ _ q)
  case ldiv =>
    have e1 := Nat.eq_of_beq_eq_true hok
    exact x_ldiv B (dec_at hd e1) h (fun _ _ _ _ q => e1 ▸ hn _ _ _ _ q)
  case lshl =>
    have e1 := Nat.eq_of_beq_eq_true hok
    exact x_lshl B (dec_at hd e1) h (fun _ _ _ _ q => e1 ▸ hn _ _ _ _ q)
  case lcmp =>
    have e1 := Nat.eq_of_beq_eq_true hok
    exact x_lcmp B (dec_at hd e1) h (fun _ _ _ _ q => e1 ▸ hn _ _ _ _ q)
  case dadd =>
    have e1 := Nat.eq_of_beq_eq_true hok
    exact x_dadd B (dec_at hd e1) h (fun _ _ _ _ q => e1 ▸ hn _ _ _ _ q)
  case dsub =>
    have e1 := Nat.eq_of_beq_eq_true hok
    exact x_dsub B (dec_at hd e1) h (fun _ _ _ _ q => e1 ▸ hn _ _ _ _ q)
  case dmul =>
    have e1 := Nat.eq_of_beq_eq_true hok
    exact x_dmul B (dec_at hd e1) h (fun _ _ _ _ q => e1 ▸ hn _ _ _ _ q)
  case ddiv =>
    have e1 := Nat.eq_of_beq_eq_true hok
    exact x_ddiv B (dec_at hd e1) h (fun _ _ _ _ q => e1 ▸ hn _ _ _ _ q)
  case dneg =>
    have e1 := Nat.eq_of_beq_eq_true hok
    exact x_dneg B (dec_at hd e1) h (fun _ _ _ _ q => e1 ▸ hn _ _ _ _ q)
  case fneg =>
    have e1 := Nat.eq_of_beq_eq_true hok
    exact x_fneg B (dec_at hd e1) h (fun _ _ _ _ q => e1 ▸ hn _ _ _ _ q)
  case d2l =>
    have e1 := Nat.eq_of_beq_eq_true hok
    exact x_d2l B (dec_at hd e1) h (fun _ _ _ _ q => e1 ▸ hn _ _ _ _ q)
  case dup =>
    have e1 := Nat.eq_of_beq_eq_true hok
    exact x_dup B (dec_at hd e1) h (fun _ _ _ _ q => e1 ▸ hn _ _ _ _ q)
  case pop =>
    have e1 := Nat.eq_of_beq_eq_true hok
    exact x_pop B (dec_at hd e1) h (fun _ _ _ _ q => e1 ▸ hn _ _ _ _ q)
  case dup2 =>
    have e1 := Nat.eq_of_beq_eq_true hok
    exact x_dup2 B (dec_at hd e1) h (fun _ _ _ _ q => e1 ▸ hn _ _ _ _ q)
  case iaload =>
    have e1 := Nat.eq_of_beq_eq_true hok
    exact x_ild B (dec_at hd e1) h (fun _ _ _ _ q => e1 ▸ hn _ _ _ _ q)
  case baload =>
    have e1 := Nat.eq_of_beq_eq_true hok
    exact x_zald B (dec_at hd e1) h (fun _ _ _ _ q => e1 ▸ hn _ _ _ _ q)
  case saload =>
    have e1 := Nat.eq_of_beq_eq_true hok
    exact x_sald B (dec_at hd e1) h (fun _ _ _ _ q => e1 ▸ hn _ _ _ _ q)
  case daload =>
    have e1 := Nat.eq_of_beq_eq_true hok
    exact x_dald B (dec_at hd e1) h (fun _ _ _ _ q => e1 ▸ hn _ _ _ _ q)
  case iastore =>
    have e1 := Nat.eq_of_beq_eq_true hok
    exact x_iast B (dec_at hd e1) h (fun _ _ _ _ q => e1 ▸ hn _ _ _ _ q)
  case bastore =>
    have e1 := Nat.eq_of_beq_eq_true hok
    exact x_zast B (dec_at hd e1) h (fun _ _ _ _ q => e1 ▸ hn _ _ _ _ q)
  case sastore =>
    have e1 := Nat.eq_of_beq_eq_true hok
    exact x_sast B (dec_at hd e1) h (fun _ _ _ _ q => e1 ▸ hn _ _ _ _ q)
  case dastore =>
    have e1 := Nat.eq_of_beq_eq_true hok
    exact x_dast B (dec_at hd e1) h (fun _ _ _ _ q => e1 ▸ hn _ _ _ _ q)
  case arraylength =>
    have e1 := Nat.eq_of_beq_eq_true hok
    exact x_len B (dec_at hd e1) h (fun _ _ _ _ q => e1 ▸ hn _ _ _ _ q)
  case dcmp o =>
    have e1 := Nat.eq_of_beq_eq_true hok
    exact x_dcmp B (dec_at hd e1) h (fun _ _ _ _ q => e1 ▸ hn _ _ _ _ q)
  case fcmp o =>
    have e1 := Nat.eq_of_beq_eq_true hok
    exact x_fcmp B (dec_at hd e1) h (fun _ _ _ _ q => e1 ▸ hn _ _ _ _ q)
  case getfield n =>
    simp only [okI, Bool.and_eq_true] at hok
    have e1 := Nat.eq_of_beq_eq_true hok.1
    obtain ⟨h1, h2, z, t, o, h3⟩ := okf_e hP hok.2
    exact x_get B (dec_at hd e1) h1 h2 h3 h (fun _ _ _ _ q => e1 ▸ hn _ _ _ _ q)
  case putfield n =>
    simp only [okI, Bool.and_eq_true] at hok
    have e1 := Nat.eq_of_beq_eq_true hok.1.1.1
    obtain ⟨h1, h2, z, t, o, h3⟩ := okf_e hP hok.1.1.2
    have h4 : ((cT a).2.1 b).2.2.2 = false := by simpa using hok.1.2
    have h5 := hok.2
    split at h5
    next => exact x_put B (dec_at hd e1) h1 h2 h3 h4 (of_decide_eq_true h5) (Or.inl ⟨rfl, rfl⟩) h (fun _ _ _ _ q => e1 ▸ hn _ _ _ _ q)
    next => exact x_put B (dec_at hd e1) h1 h2 h3 h4 (of_decide_eq_true h5) (Or.inr (Or.inl ⟨rfl, rfl⟩)) h (fun _ _ _ _ q => e1 ▸ hn _ _ _ _ q)
    next => exact x_put B (dec_at hd e1) h1 h2 h3 h4 (of_decide_eq_true h5) (Or.inr (Or.inr ⟨rfl, rfl⟩)) h (fun _ _ _ _ q => e1 ▸ hn _ _ _ _ q)
    next => cases h5
  case goto o =>
    simp only [okI, Bool.and_eq_true, decide_eq_true_eq] at hok
    exact x_goto B (dec_at hd (Nat.eq_of_beq_eq_true hok.1)) hok.2 (hj _ _ _ _ _ h)
  case ifCond cd o =>
    simp only [okI, Bool.and_eq_true, decide_eq_true_eq] at hok
    have e1 := Nat.eq_of_beq_eq_true hok.1
    exact x_if B (dec_at hd e1) hok.2 h hj (fun _ _ _ _ q => e1 ▸ hn _ _ _ _ q)
  case if_icmp cd o =>
    simp only [okI, Bool.and_eq_true, decide_eq_true_eq] at hok
    have e1 := Nat.eq_of_beq_eq_true hok.1
    exact x_icmp B (dec_at hd e1) hok.2 h hj (fun _ _ _ _ q => e1 ▸ hn _ _ _ _ q)
  case tableswitch dflt lo hi offs =>
    simp only [okI, Bool.and_eq_true, decide_eq_true_eq, List.all_eq_true] at hok
    exact x_tsw B hd hok.1 hok.2 h hj
  case lookupswitch dflt ps =>
    simp only [okI, Bool.and_eq_true] at hok
    exact x_lsw B hd hok.1 (fun o ho => of_decide_eq_true (List.all_eq_true.mp hok.2 o ho)) h hj
  case invokestatic n =>
    simp only [okI, Bool.and_eq_true] at hok
    have e1 := Nat.eq_of_beq_eq_true hok.1
    have h5 := hok.2
    split at h5
    next =>
      have h6 : ∃ q, nth MT a = some q ∧ q.2.2.2.2.1 = b ∧ q.2.2.2.2.2.1 = true ∧ Cond.methodLink P.1 n q.1 ∈ gt := by
        rcases Bool.or_eq_true_iff.mp h5 with h6 | h6
        · obtain ⟨q, w1, w2, w3, -, w4⟩ := okc_e hP h6
          exact ⟨q, w1, w2, w3, w4⟩
        · obtain ⟨q, w1, w2, w3, -, w4⟩ := okc_e hP h6
          exact ⟨q, w1, w2, w3, w4⟩
      obtain ⟨q, w1, w2, w3, w4⟩ := h6
      exact x_callS B hAd (dec_at hd e1) w1 w3 w2 w4 h (fun _ _ _ _ q => e1 ▸ hn _ _ _ _ q)
    next => exact x_nat1 B (dec_at hd e1) (okn_e hP h5) h (fun _ _ _ _ q => e1 ▸ hn _ _ _ _ q)
    next => exact x_nat2 B (dec_at hd e1) (okn_e hP h5) h (fun _ _ _ _ q => e1 ▸ hn _ _ _ _ q)
    next => cases h5
  case invokevirtual n =>
    simp only [okI, Bool.and_eq_true] at hok
    have e1 := Nat.eq_of_beq_eq_true hok.1
    have h5 := hok.2
    split at h5
    next ci =>
      obtain ⟨q, w1, w2, w3, w5, w4⟩ := okc_e hP h5
      exact x_callV B hAd (dec_at hd e1) w1 w3 w2 w5 w4 h (fun _ _ _ _ q => e1 ▸ hn _ _ _ _ q)
    next => cases h5
  case ireturn =>
    have h0 := hok
    simp only [okI, Bool.and_eq_true] at hok
    have e1 := Nat.eq_of_beq_eq_true hok.1
    subst e1
    exact hR pc .ireturn a lv st I D (Or.inl rfl) (dec_at hd rfl) h0 h
  case lreturn =>
    have h0 := hok
    simp only [okI, Bool.and_eq_true] at hok
    have e1 := Nat.eq_of_beq_eq_true hok.1
    subst e1
    exact hR pc .lreturn a lv st I D (Or.inr (Or.inl rfl)) (dec_at hd rfl) h0 h
  case dreturn =>
    have h0 := hok
    simp only [okI, Bool.and_eq_true] at hok
    have e1 := Nat.eq_of_beq_eq_true hok.1
    subst e1
    exact hR pc .dreturn a lv st I D (Or.inr (Or.inr (Or.inl rfl))) (dec_at hd rfl) h0 h
  case return_ =>
    have h0 := hok
    simp only [okI, Bool.and_eq_true] at hok
    have e1 := Nat.eq_of_beq_eq_true hok.1
    subst e1
    exact hR pc .return_ a lv st I D (Or.inr (Or.inr (Or.inr rfl))) (dec_at hd rfl) h0 h
  all_goals exact h.elim
end RX
