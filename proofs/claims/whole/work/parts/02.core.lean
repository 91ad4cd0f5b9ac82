/-! THE WALK AS A FUNCTION. A list of resolved instructions is run over names for values: 'wp' says what must hold for the machine to come where it should. -/
abbrev MI : Type := Nat → Nat → Int32
abbrev MD : Type := Nat → Nat → UInt64
abbrev Lv : Type := List (Nat × Value)
/-- a cell: an object (its number among the kinds, its fields: a reference, an int, a double), or a row (its kind, its length) -/
abbrev Sh : Type := (Nat × List (Nat ⊕ Bool)) ⊕ (Nat × Nat)
/-- a place, its instruction, two numbers, a constant -/
abbrev Op : Type := Nat × Instr × Nat × Nat × Value
abbrev Nt : Type := Lv → List Value → MI → MD → Prop
abbrev Kt : Type := Nat → Nt
abbrev Po : Type := Option Value → MI → MD → Prop
abbrev Rk : Type := Instr → Nat → List Value → MI → MD → Prop
abbrev Ck : Type := Nat → List Value → MI → MD → Po → Prop
def up2 {α : Type} (f : Nat → Nat → α) (k j : Nat) (v : α) : Nat → Nat → α := fun a => match Nat.beq a k with
  | true => fun b => if b = j then v else f a b
  | false => f a
def nth {α : Type} : List α → Nat → Option α
  | [], _ => none
  | a :: _, 0 => some a
  | _ :: l, n + 1 => nth l n
def lk : Lv → Nat → (Value → Prop) → Prop
  | [], _, _ => False
  | q :: t, i, k => match Nat.beq q.1 i with
    | true => k q.2
    | false => lk t i k
/-- the locals that a store of one word at i leaves -/
def fl1 (i : Nat) : Lv → (Lv → Prop) → Prop
  | [], k => k []
  | q :: t, k => match (!(Nat.beq q.1 i) && !(Nat.beq (q.1 + 1) i && Nat.beq q.2.category 2)) with
    | true => fl1 i t (fun t' => k (q :: t'))
    | false => fl1 i t k
def fl2 (i : Nat) : Lv → (Lv → Prop) → Prop
  | [], k => k []
  | q :: t, k => match (!(Nat.beq q.1 i) && (!(Nat.beq q.1 (i + 1)) && !(Nat.beq (q.1 + 1) i && Nat.beq q.2.category 2))) with
    | true => fl2 i t (fun t' => k (q :: t'))
    | false => fl2 i t k
def pick : List Nat → Lv → (Lv → Prop) → Prop
  | [], _, k => k []
  | i :: is, lv, k => lk lv i (fun v => pick is lv (fun t => k ((i, v) :: t)))
def popN : Nat → List Value → List Value → (List Value → List Value → Prop) → Prop
  | 0, st, acc, k => k acc st
  | _ + 1, [], _, _ => False
  | n + 1, v :: st, acc, k => popN n st (v :: acc) k
def csum : List Value → Nat
  | [] => 0
  | v :: t => v.category + csum t
def okst (r : List Value) (P : Prop) : Prop := match Nat.ble (csum r) 8 with
  | true => P
  | false => False
def lvOf : List (Nat × List Nat) → Nat → List Nat
  | [], _ => []
  | q :: t, i => match Nat.beq q.1 i with
    | true => q.2
    | false => lvOf t i
def tI (st : List Value) (k : Int32 → List Value → Prop) : Prop := match st with
  | .int x :: r => k x r
  | _ => False
def tL (st : List Value) (k : Int64 → List Value → Prop) : Prop := match st with
  | .long x :: r => k x r
  | _ => False
def tF (st : List Value) (k : UInt32 → List Value → Prop) : Prop := match st with
  | .float x :: r => k x r
  | _ => False
def tD (st : List Value) (k : UInt64 → List Value → Prop) : Prop := match st with
  | .double x :: r => k x r
  | _ => False
def tR (st : List Value) (k : Nat → List Value → Prop) : Prop := match st with
  | .ref x :: r => k x r
  | _ => False
def t2I (st : List Value) (k : Int32 → Int32 → List Value → Prop) : Prop := match st with
  | .int y :: .int x :: r => k x y r
  | _ => False
def t2L (st : List Value) (k : Int64 → Int64 → List Value → Prop) : Prop := match st with
  | .long y :: .long x :: r => k x y r
  | _ => False
def t2F (st : List Value) (k : UInt32 → UInt32 → List Value → Prop) : Prop := match st with
  | .float y :: .float x :: r => k x y r
  | _ => False
def t2D (st : List Value) (k : UInt64 → UInt64 → List Value → Prop) : Prop := match st with
  | .double y :: .double x :: r => k x y r
  | _ => False
def isI (w : Value) (P : Prop) : Prop := match w with
  | .int _ => P
  | _ => False
def isL (w : Value) (P : Prop) : Prop := match w with
  | .long _ => P
  | _ => False
def isF (w : Value) (P : Prop) : Prop := match w with
  | .float _ => P
  | _ => False
def isD (w : Value) (P : Prop) : Prop := match w with
  | .double _ => P
  | _ => False
def isR (w : Value) (P : Prop) : Prop := match w with
  | .ref _ => P
  | _ => False
/-- an object of kind ci at k -/
def atO (SH : List Sh) (k ci : Nat) (P : List (Nat ⊕ Bool) → Prop) : Prop := match nth SH k with
  | some (.inl q) => match Nat.beq q.1 ci with
    | true => P q.2
    | false => False
  | _ => False
/-- a row of kind t at k -/
def atA (SH : List Sh) (k t : Nat) (P : Nat → Prop) : Prop := match nth SH k with
  | some (.inr q) => match Nat.beq q.1 t with
    | true => P q.2
    | false => False
  | _ => False
/-- an index within -/
def inn (i : Int32) (n : Nat) : Prop := 0 ≤ i.toInt ∧ i.toInt < n
def xget (SH : List Sh) (a b : Nat) (st : List Value) (I : MI) (D : MD) (k : List Value → Prop) : Prop :=
  tR st (fun q r => atO SH q a (fun fks => match nth fks b with
    | some (.inl t) => k (.ref t :: r)
    | some (.inr false) => k (.int (I q b) :: r)
    | some (.inr true) => k (.double (D q b) :: r)
    | none => False))
/-- a field of a boolean takes 0 and 1 alone: v is then .ref 1; of a double: .ref 2 -/
def xput (SH : List Sh) (a b : Nat) (v : Value) (st : List Value) (I : MI) (D : MD) (k : List Value → MI → MD → Prop) : Prop := match st with
  | .int x :: .ref q :: r => atO SH q a (fun fks => match nth fks b with
    | some (.inr false) => (match v with
      | .ref 1 => (x = 0 ∨ x = 1) ∧ k r (up2 I q b x) D
      | .null => k r (up2 I q b x) D
      | _ => False)
    | _ => False)
  | .double x :: .ref q :: r => atO SH q a (fun fks => match nth fks b with
    | some (.inr true) => (match v with
      | .ref 2 => k r I (up2 D q b x)
      | _ => False)
    | _ => False)
  | _ => False
def xald (SH : List Sh) (t : Nat) (st : List Value) (I : MI) (k : List Value → Prop) : Prop := match st with
  | .int i :: .ref q :: r => atA SH q t (fun n => inn i n ∧ k (.int (I q i.toNatClampNeg) :: r))
  | _ => False
def xdld (SH : List Sh) (st : List Value) (D : MD) (k : List Value → Prop) : Prop := match st with
  | .int i :: .ref q :: r => atA SH q 3 (fun n => inn i n ∧ k (.double (D q i.toNatClampNeg) :: r))
  | _ => False
/-- a load of the script (no cell of ours: its name is .ref 999), or of a row of ints -/
def xild (SH : List Sh) (SC : Option (Nat × (Nat → Int32))) (st : List Value) (I : MI) (k : List Value → Prop) : Prop := match SC with
  | none => xald SH 0 st I k
  | some c => (match st with
    | .int i :: .ref 999 :: r => inn i c.1 ∧ k (.int (c.2 i.toNatClampNeg) :: r)
    | _ => False)
def xast (SH : List Sh) (t : Nat) (nar : Int32 → Int32) (st : List Value) (I : MI) (k : List Value → MI → Prop) : Prop := match st with
  | .int x :: .int i :: .ref q :: r => atA SH q t (fun n => inn i n ∧ k r (up2 I q i.toNatClampNeg (nar x)))
  | _ => False
def xdst (SH : List Sh) (st : List Value) (D : MD) (k : List Value → MD → Prop) : Prop := match st with
  | .double x :: .int i :: .ref q :: r => atA SH q 3 (fun n => inn i n ∧ k r (up2 D q i.toNatClampNeg x))
  | _ => False
def xlen (SC : Option (Nat × (Nat → Int32))) (st : List Value) (k : List Value → Prop) : Prop := match SC, st with
  | some c, .ref 999 :: r => k (.int (Int32.ofNat c.1) :: r)
  | _, _ => False
def xif (c : ClassFile.Cond) (x : Int32) (A B : Prop) : Prop := match c with
  | .eq => (x = 0 → A) ∧ (¬ x = 0 → B)
  | .ne => (¬ x = 0 → A) ∧ (x = 0 → B)
  | .lt => (x < 0 → A) ∧ (¬ x < 0 → B)
  | .ge => (0 ≤ x → A) ∧ (¬ 0 ≤ x → B)
  | .gt => (0 < x → A) ∧ (¬ 0 < x → B)
  | .le => (x ≤ 0 → A) ∧ (¬ x ≤ 0 → B)
def xic (c : ClassFile.Cond) (x y : Int32) (A B : Prop) : Prop := match c with
  | .eq => (x = y → A) ∧ (¬ x = y → B)
  | .ne => (¬ x = y → A) ∧ (x = y → B)
  | .lt => (x < y → A) ∧ (¬ x < y → B)
  | .ge => (y ≤ x → A) ∧ (¬ y ≤ x → B)
  | .gt => (y < x → A) ∧ (¬ y < x → B)
  | .le => (x ≤ y → A) ∧ (¬ x ≤ y → B)
def tgt (pc : Nat) (o : Int) : Nat := ((pc : Int) + o).toNat
def swt (x : Int32) (jp : Int → Prop) (P : Prop) : Int → List Int → Prop
  | _, [] => P
  | n, o :: os => (x.toInt = n → jp o) ∧ swt x jp P (n + 1) os
def swl (x : Int32) (jp : Int → Prop) : List (Int × Int) → Prop → Prop
  | [], P => P
  | q :: qs, P => (x.toInt = q.1 → jp q.2) ∧ swl x jp qs (x.toInt ≠ q.1 → P)
def dup1 (st : List Value) (k : Value → List Value → Prop) : Prop := match st with
  | v :: r => (match Nat.beq v.category 1 with
    | true => k v r
    | false => False)
  | _ => False
def dup11 (st : List Value) (k : Value → Value → List Value → Prop) : Prop := match st with
  | v :: w :: r => (match Nat.beq v.category 1, Nat.beq w.category 1 with
    | true, true => k v w r
    | _, _ => False)
  | _ => False
def xcallS (Ca : Ck) (a b : Nat) (v : Value) (st : List Value) (I : MI) (D : MD) (k : List Value → MI → MD → Prop) : Prop := match v with
  | .ref 0 => popN b st [] (fun As r => okst r (Ca a As I D (fun o I' D' => k (o.toList ++ r) I' D')))
  | .ref 1 => tI st (fun x r => okst r (vn_sni2f x = false ∧ k (.float x.toUInt32 :: r) I D))
  | .ref 2 => tD st (fun x r => okst r (k (.long x.toInt64 :: r) I D))
  | _ => False
def xcallV (SH : List Sh) (Ca : Ck) (a b : Nat) (v : Value) (st : List Value) (I : MI) (D : MD) (k : List Value → MI → MD → Prop) : Prop := match v with
  | .ref ci => popN b st [] (fun As r => tR r (fun q r => atO SH q ci (fun _ => okst r (Ca a (.ref q :: As) I D (fun o I' D' => k (o.toList ++ r) I' D')))))
  | _ => False
def xinc (a : Nat) (v : Value) (lv : Lv) (k : Lv → Prop) : Prop := lk lv a (fun w => match w, v with
  | .int x, .int c => fl1 a lv (fun t => k ((a, .int (x + c)) :: t))
  | _, _ => False)
def ex (SH : List Sh) (SC : Option (Nat × (Nat → Int32))) (Rt : Rk) (Ca : Ck) (pc : Nat) (i : Instr) (a b : Nat) (v : Value) (lv : Lv) (st : List Value) (I : MI) (D : MD) (nx : Nt) (jp : Kt) : Prop := match i with
  | .iconst _ => nx lv (v :: st) I D
  | .bipush _ => nx lv (v :: st) I D
  | .sipush _ => nx lv (v :: st) I D
  | .ldc _ => nx lv (v :: st) I D
  | .ldc_w _ => nx lv (v :: st) I D
  | .ldc2_w _ => nx lv (v :: st) I D
  | .lconst _ => nx lv (v :: st) I D
  | .dconst _ => nx lv (v :: st) I D
  | .fconst _ => nx lv (v :: st) I D
  | .iload _ => lk lv a (fun w => isI w (nx lv (w :: st) I D))
  | .iload_n _ => lk lv a (fun w => isI w (nx lv (w :: st) I D))
  | .lload _ => lk lv a (fun w => isL w (nx lv (w :: st) I D))
  | .lload_n _ => lk lv a (fun w => isL w (nx lv (w :: st) I D))
  | .fload _ => lk lv a (fun w => isF w (nx lv (w :: st) I D))
  | .dload _ => lk lv a (fun w => isD w (nx lv (w :: st) I D))
  | .dload_n _ => lk lv a (fun w => isD w (nx lv (w :: st) I D))
  | .aload _ => lk lv a (fun w => isR w (nx lv (w :: st) I D))
  | .aload_n _ => lk lv a (fun w => isR w (nx lv (w :: st) I D))
  | .istore _ => tI st (fun x r => fl1 a lv (fun t => nx ((a, .int x) :: t) r I D))
  | .istore_n _ => tI st (fun x r => fl1 a lv (fun t => nx ((a, .int x) :: t) r I D))
  | .lstore _ => tL st (fun x r => fl2 a lv (fun t => nx ((a, .long x) :: t) r I D))
  | .fstore _ => tF st (fun x r => fl1 a lv (fun t => nx ((a, .float x) :: t) r I D))
  | .dstore _ => tD st (fun x r => fl2 a lv (fun t => nx ((a, .double x) :: t) r I D))
  | .dstore_n _ => tD st (fun x r => fl2 a lv (fun t => nx ((a, .double x) :: t) r I D))
  | .iinc _ _ => xinc a v lv (fun t => nx t st I D)
  | .iadd => t2I st (fun x y r => nx lv (.int (x + y) :: r) I D)
  | .isub => t2I st (fun x y r => nx lv (.int (x - y) :: r) I D)
  | .imul => t2I st (fun x y r => nx lv (.int (x * y) :: r) I D)
  | .iand => t2I st (fun x y r => nx lv (.int (x &&& y) :: r) I D)
  | .ixor => t2I st (fun x y r => nx lv (.int (x ^^^ y) :: r) I D)
  | .idiv => t2I st (fun x y r => ¬ y = 0 ∧ nx lv (.int (x / y) :: r) I D)
  | .irem => t2I st (fun x y r => ¬ y = 0 ∧ nx lv (.int (x - x / y * y) :: r) I D)
  | .ineg => tI st (fun x r => nx lv (.int (-x) :: r) I D)
  | .i2l => tI st (fun x r => nx lv (.long x.toInt64 :: r) I D)
  | .i2d => tI st (fun x r => nx lv (.double (FP.i2d x) :: r) I D)
  | .i2s => tI st (fun x r => nx lv (.int x.toInt16.toInt32 :: r) I D)
  | .l2i => tL st (fun x r => nx lv (.int x.toInt32 :: r) I D)
  | .ladd => t2L st (fun x y r => nx lv (.long (x + y) :: r) I D)
  | .lsub => t2L st (fun x y r => nx lv (.long (x - y) :: r) I D)
  | .lmul => t2L st (fun x y r => nx lv (.long (x * y) :: r) I D)
  | .land => t2L st (fun x y r => nx lv (.long (x &&& y) :: r) I D)
  | .lor => t2L st (fun x y r => nx lv (.long (x ||| y) :: r) I D)
  | .ldiv => t2L st (fun x y r => ¬ y = 0 ∧ nx lv (.long (x / y) :: r) I D)
  | .lshl => tI st (fun y r => tL r (fun x r => nx lv (.long (x <<< (y.toInt64 &&& 63)) :: r) I D))
  | .lcmp => t2L st (fun x y r => nx lv (.int (lg_cmp x y) :: r) I D)
  | .dadd => t2D st (fun x y r => vf_n64 (FP.dadd x y) ∧ nx lv (.double (FP.dadd x y) :: r) I D)
  | .dsub => t2D st (fun x y r => vf_n64 (FP.dsub x y) ∧ nx lv (.double (FP.dsub x y) :: r) I D)
  | .dmul => t2D st (fun x y r => vf_n64 (FP.dmul x y) ∧ nx lv (.double (FP.dmul x y) :: r) I D)
  | .ddiv => t2D st (fun x y r => vf_n64 (FP.ddiv x y) ∧ nx lv (.double (FP.ddiv x y) :: r) I D)
  | .dneg => tD st (fun x r => nx lv (.double (FP.dneg x) :: r) I D)
  | .fneg => tF st (fun x r => nx lv (.float (FP.fneg x) :: r) I D)
  | .d2l => tD st (fun x r => nx lv (.long (FP.d2l x) :: r) I D)
  | .dcmp o => t2D st (fun x y r => nx lv (.int (Op.cmpValue (FP.dcmp x y) o) :: r) I D)
  | .fcmp o => t2F st (fun x y r => nx lv (.int (Op.cmpValue (FP.fcmp x y) o) :: r) I D)
  | .dup => dup1 st (fun v r => nx lv (v :: v :: r) I D)
  | .pop => dup1 st (fun _ r => nx lv r I D)
  | .dup2 => dup11 st (fun v w r => nx lv (v :: w :: v :: w :: r) I D)
  | .getfield _ => xget SH a b st I D (fun r => nx lv r I D)
  | .putfield _ => xput SH a b v st I D (fun r I D => nx lv r I D)
  | .iaload => xild SH SC st I (fun r => nx lv r I D)
  | .baload => xald SH 1 st I (fun r => nx lv r I D)
  | .saload => xald SH 2 st I (fun r => nx lv r I D)
  | .daload => xdld SH st D (fun r => nx lv r I D)
  | .iastore => xast SH 0 (fun x => x) st I (fun r I => nx lv r I D)
  | .bastore => xast SH 1 (vp_nar .boolean) st I (fun r I => nx lv r I D)
  | .sastore => xast SH 2 (vp_nar .short) st I (fun r I => nx lv r I D)
  | .dastore => xdst SH st D (fun r D => nx lv r I D)
  | .arraylength => xlen SC st (fun r => nx lv r I D)
  | .goto _ => jp a lv st I D
  | .ifCond c _ => tI st (fun x r => xif c x (jp a lv r I D) (nx lv r I D))
  | .if_icmp c _ => t2I st (fun x y r => xic c x y (jp a lv r I D) (nx lv r I D))
  | .tableswitch d lo hi offs => tI st (fun x r => swt x (fun o => jp (tgt pc o) lv r I D) ((x.toInt < lo ∨ hi < x.toInt) → jp (tgt pc d) lv r I D) lo offs.toList)
  | .lookupswitch d ps => tI st (fun x r => swl x (fun o => jp (tgt pc o) lv r I D) ps.toList (jp (tgt pc d) lv r I D))
  | .invokestatic _ => xcallS Ca a b v st I D (fun r I D => nx lv r I D)
  | .invokevirtual _ => xcallV SH Ca a b v st I D (fun r I D => nx lv r I D)
  | .ireturn => Rt i a st I D
  | .lreturn => Rt i a st I D
  | .dreturn => Rt i a st I D
  | .return_ => Rt i a st I D
  | _ => False
/-- a stretch of code, run from its first place (none) or from a place within it; what leaves it goes by K, with the locals that live there -/
def wp (SH : List Sh) (SC : Option (Nat × (Nat → Int32))) (Rt : Rk) (Ca : Ck) (LV : List (Nat × List Nat)) (K : Kt) (e : Nat) : List Op → Option Nat → Nt
  | [], none, lv, st, I, D => pick (lvOf LV e) lv (fun lv' => K e lv' st I D)
  | [], some t, lv, st, I, D => pick (lvOf LV t) lv (fun lv' => K t lv' st I D)
  | q :: r, none, lv, st, I, D => ex SH SC Rt Ca q.1 q.2.1 q.2.2.1 q.2.2.2.1 q.2.2.2.2 lv st I D (fun lv st I D => wp SH SC Rt Ca LV K e r none lv st I D) (fun t lv st I D => wp SH SC Rt Ca LV K e r (some t) lv st I D)
  | q :: r, some t, lv, st, I, D => match Nat.beq q.1 t with
    | true => ex SH SC Rt Ca q.1 q.2.1 q.2.2.1 q.2.2.2.1 q.2.2.2.2 lv st I D (fun lv st I D => wp SH SC Rt Ca LV K e r none lv st I D) (fun t lv st I D => wp SH SC Rt Ca LV K e r (some t) lv st I D)
    | false => wp SH SC Rt Ca LV K e r (some t) lv st I D
