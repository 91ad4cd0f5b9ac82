/-! the bits of a signalling NaN: the machine draws which NaN it makes of them -/
abbrev cpy : Choice := Jvm.Choice.named "NaN.copy"
theorem cpy_in : cpy ∈ lw_cs := by decide
section R83
variable {p : Program} {l : Launch} {e : Env} {R : Room} {s : State} {m : MethodId} {args : Array Value} {below : List Frame} {meth : Method} {c : Code} {cells slots : Nat} {Q : State → Prop} {H : Heap} {locs : List Loc}
variable {cc : ByteArray} {pc : Nat} {ls : Array Slot} {rest : List Value} {d0 : Drawn}
theorem sn_nan {b : Int32} (h : vn_sni2f b = true) : isNaN32 b.toUInt32 = true := by
  unfold vn_sni2f at h
  rw [Bool.and_eq_true] at h
  exact h.1
theorem i2fS (hd0 : s.drawn.sameBut d0 lw_cs) (hexec : p.tables.exec = Jvm.exec) (hb : c.code = cc) (hml : c.maxLocals = ls.size) {own : String} {index : Nat} (hown : s.vm.findClass own = some m.cls) (hlink : (Cond.methodLink own index (yN 1)).before args s = true) (hnat : (Cond.native (yN 1)).before args s = true) (hstat : (Cond.static (yN 1)).before args s = true) (hinit : (Cond.initialized "java/lang/Float").before args s = true) {b : Int32} (hv : vn_sni2f b = true)
    (hframes : 1 ≤ R.frames) (hlocals : (rest.map fun v => v.category).sum + 15 ≤ R.locals) (hdg : decode cc pc = .ok (.invokestatic index, 3))
    (k : ∀ (r : UInt32) (d' : Drawn), isNaN32 r = true → s.drawn.sameBut d' lw_cs → W p l e R (s.setDrawn d') m args below meth c H locs cells slots Q (F0 m (pc + 3) ls (.float r :: rest))) : W p l e R (s.setDrawn d0) m args below meth c H locs cells slots Q (F0 m pc ls (.int b :: rest)) := by
  intro T hT X
  have hlink := (Cond.before_setDrawn args s d0 _).trans hlink
  have hnat := (Cond.before_setDrawn args s d0 _).trans hnat
  have hstat := (Cond.before_setDrawn args s d0 _).trans hstat
  have hinit := (Cond.before_setDrawn args s d0 _).trans hinit
  obtain ⟨r, kS, methS, hnS, hmS, hkS, N⟩ := NativeOf.of_static hnat hstat (ps := [.int]) (ret := some .float) (by decide +kernel)
  have hinitS : kS.init = .initialized := Cond.initialized_spec (findClass_of_methodNamed hnS) hkS hinit
  obtain ⟨vm', X', step⟩ := X.invokestatic hexec hown hlink hnS hmS N.static hkS hinitS (by decide) (g := F0 m pc ls (.int b :: rest)) rfl (argsL := [.int b]) (rest := rest) (by rw [N.sig]; rfl) rfl (by rw [hb]; exact hdg)
  obtain ⟨kS', N'⟩ := N.alike X'.warmed.alike
  have hdr : (T.setVm vm').drawn = d0 := X'.drawn_eq
  obtain ⟨r32, hr32⟩ : ∃ r32, r32 = if e.choices cpy ((T.setVm vm').drawn.count cpy) % 2 == 0 then b.toUInt32 else b.toUInt32 ||| 0x00400000 := ⟨_, rfl⟩
  have hnan : isNaN32 r32 = true := by
    rw [hr32]
    split
    · exact sn_nan hv
    · exact isNaN32_or_left (sn_nan hv)
  have hsame : s.drawn.sameBut ((T.setVm vm').drawn.next cpy) lw_cs := by
    rw [hdr]
    exact Drawn.sameBut.trans hd0 (Drawn.sameBut.mono (Drawn.next_named d0 "NaN.copy") (fun c hc => by
      simp only [List.mem_cons, List.not_mem_nil, or_false] at hc
      rw [hc]; exact cpy_in))
  obtain ⟨t, a1, b1⟩ := k r32 ((T.setVm vm').drawn.next cpy) hnan hsame ((T.setVm vm').setDrawn ((T.setVm vm').drawn.next cpy)) hT (X'.drewTo _)
  refine ⟨t, step t (fun acts => ?_), b1⟩
  have hseen : seenByNative methS #[.int b] = #[.int b] := by simp [seenByNative, N.static, N.sig, narrow]
  refine Steps.nativeEnds (g := F0 m pc ls rest) (row := Native.java_lang_Float.bits.rowIntBitsToFloat) (v := some (.float r32)) (T := fun u => u.draw cpy) (ig := .invokestatic index) (len := 3) X'.here acts N'.cls N'.meth N'.boot N'.native N'.noCode N'.noLock
    (by rw [N'.className, N'.name, N'.desc]; exact intBitsToFloat_row p) (by rw [N'.className, N'.name]; exact X'.notFull (g := F0 m pc ls rest) (by rw [hml]) (vars := nativeFrameWords "java/lang/Float" "intBitsToFloat" 1) hframes (by show 2 * 0 + (rest.map fun v => v.category).sum + _ ≤ _; have hw : nativeFrameWords "java/lang/Float" "intBitsToFloat" 1 = 3 := (by decide); omega)) (fun _ => rfl) rfl (fun _ => X'.here.code) ?_ (by rw [hb]; exact hdg) a1
  intro Q2 hq
  rw [hseen] at hq ⊢
  rw [Native.java_lang_Float.bits.intBitsToFloat_on]
  have hv2 : (b.toUInt32 &&& 0x7fffffff > 0x7f800000 && b.toUInt32 &&& 0x00400000 == 0) = true := hv
  simp only [hv2, if_true, wp_bind', W.mark, wp_pure', W.choose]
  rw [hr32] at hq
  exact hq _ _
end R83
