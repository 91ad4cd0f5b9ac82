/-! range, spring, stream -/
section SA4
variable (g : Gp) (I : MI) (D : MD)
theorem wa_p {g : Gp} {mid : Nat} {As : List Value} {I I1 I2 : MI} {D D1 : MD} {ok no : Bool} {v : UInt64} (h : Con g SHc 20 mid As I D (EqP (some (.long (waA ok no v))) (waI ok no I1 I2) D1)) (h1 : ok = true) (h2 : no = true) : Con g SHc 20 mid As I D (EqP (some (.long 9221120237041090560)) I2 D1) := by
  subst h1
  subst h2
  exact h
theorem wa_n {g : Gp} {mid : Nat} {As : List Value} {I I1 I2 : MI} {D D1 : MD} {ok no : Bool} {v : UInt64} (h : Con g SHc 20 mid As I D (EqP (some (.long (waA ok no v))) (waI ok no I1 I2) D1)) (h1 : ok = true) (h2 : no = false) : Con g SHc 20 mid As I D (EqP (some (.long v.toInt64)) I1 D1) := by
  subst h1
  subst h2
  exact h
theorem wa_o {g : Gp} {mid : Nat} {As : List Value} {I I1 I2 : MI} {D D1 : MD} {ok no : Bool} {v : UInt64} (h : Con g SHc 20 mid As I D (EqP (some (.long (waA ok no v))) (waI ok no I1 I2) D1)) (h1 : ok = false) : Con g SHc 20 mid As I D (EqP (some (.long 9221120237041090560)) I1 D1) := by
  subst h1
  cases no <;> exact h
theorem p_range (hr : Rel I D) (s i : Int32) : Pair g 61 192 [.int s, .int i] I D := by
  obtain ⟨n, m, tk, fd, h, q, sp, ms, np, H⟩ := hr
  obtain ⟨-, -, -, -, w5, -, w7, w8, -, -, -⟩ := id H.wat
  have h1 := wat_1 H.wat
  have hX := c_X_range g 17 I D (by rw [w5]; exact h1) (fun s c _ _ j _ => by rw [w8.1]; exact w8.2 _) s i
  have hM := fun J a1 => c_M_range g 17 J D a1 (fun s c _ _ j _ => (w8.2 _).1) s i
  rw [w5, w7, w8.1, H.fin.1, rg_eq (w8.2 _).2 (w8.2 _).2] at hX
  cases c1 : (wi s 0 11 && wi i 0 (I 97 s.toNatClampNeg - 2) && !decide (3000 ≤ I 12 2)) with
  | false => exact Pair.mk (wa_o hX c1) (wa_o (hM I h1) c1) rfl ⟨n, m, tk, fd, h, q, sp, ms, np, H⟩
  | true =>
    cases c2 : decide (I 99 (40 * s.toNatClampNeg + i.toNatClampNeg) = I 99 (40 * s.toNatClampNeg + i.toNatClampNeg + 1)) with
    | true => exact Pair.mk (wa_p hX c1 c2) (wa_p (hM (tellX 7 I) h1) c1 c2) rfl ⟨n, m, tk, fd, h, q, sp, ms, np, rel_fin H _⟩
    | false => exact Pair.mk (wa_n hX c1 c2) (wa_n (hM I h1) c1 c2) rfl ⟨n, m, tk, fd, h, q, sp, ms, np, H⟩
end SA4
