/-! THE RELATION between what the class holds and what the reference holds -/
def RNow (I : MI) : Prop := I 0 11 = I 12 0 ∧ ∃ n, n < 2592000 ∧ I 12 0 = nI n
def RFin (I : MI) : Prop := I 1 0 = I 12 2 ∧ I 1 1 = I 12 1
/-- one WAVE's three numbers -/
def wv3 (a b c : Int32) : Prop := wi a 0 9999 = true ∧ wi b 0 60000 = true ∧ wi c 0 65535 = true
def RDra (I : MI) : Prop := I 13 = I 70 ∧ I 14 = I 71 ∧ ∀ s, s < 12 → ∃ w, w ≤ 8 ∧ I 71 s = nI w ∧ ∀ j, j < w → I 15 (24 * s + 3 * j) = I 72 (8 * s + j) ∧ I 15 (24 * s + 3 * j + 1) = I 73 (8 * s + j) ∧ I 15 (24 * s + 3 * j + 2) = I 74 (8 * s + j) ∧ wv3 (I 72 (8 * s + j)) (I 73 (8 * s + j)) (I 74 (8 * s + j))
def RSur (I : MI) : Prop := ∃ n, n ≤ 60 ∧ I 2 9 = nI n ∧ I 12 8 = nI n ∧ I 16 = I 75 ∧ I 17 = I 76 ∧ I 18 = I 77 ∧ I 19 = I 78 ∧ I 20 = I 79 ∧
  ∀ s, s < n → ∃ w, w ≤ 8 ∧ I 79 s = nI w ∧ ∀ j, j < w → I 21 (24 * s + 3 * j) = I 80 (8 * s + j) ∧ I 21 (24 * s + 3 * j + 1) = I 81 (8 * s + j) ∧ I 21 (24 * s + 3 * j + 2) = I 82 (8 * s + j) ∧ wv3 (I 80 (8 * s + j)) (I 81 (8 * s + j)) (I 82 (8 * s + j))
def RelA (I : MI) : Prop := RNow I ∧ RFin I ∧ RDra I ∧ RSur I
/-- one call on both: the same answer, and the relation again -/
def Pair (g : Gp) (mx mm : Nat) (As : List Value) (I : MI) (D : MD) (R : MI → MD → Prop) : Prop := ∃ r I1 D1 I2 D2, Con g SHc 20 mx (.ref 0 :: As) I D (EqP r I1 D1) ∧ Con g SHc 20 mm (.ref 12 :: As) I1 D1 (EqP r I2 D2) ∧ R I2 D2
theorem Pair.mk {g : Gp} {mx mm : Nat} {As : List Value} {I I1 I2 : MI} {D D1 D2 : MD} {R : MI → MD → Prop} {rX rM : Option Value} (hX : Con g SHc 20 mx (.ref 0 :: As) I D (EqP rX I1 D1)) (hM : Con g SHc 20 mm (.ref 12 :: As) I1 D1 (EqP rM I2 D2)) (hr : rX = rM) (hR : R I2 D2) : Pair g mx mm As I D R := by
  subst hr
  exact ⟨rX, I1, D1, I2, D2, hX, hM, hR⟩
section S30
variable (g : Gp) (I : MI) (D : MD)
theorem p_clock (h : RelA I) (t : Int32) : Pair g 0 148 [.int t] I D (fun I _ => RelA I) := by
  obtain ⟨⟨h1, n, hn, h2⟩, h3, h4, h5⟩ := h
  have hX := c_X_clock g 19 I D t
  by_cases c : (wi t 0 2591999 && decide (I 0 11 ≤ t)) = true
  · rw [if_pos c, if_pos c] at hX
    have hM := c_M_clock g 18 (up2 I 0 11 t) D t
    have c' : (wi t 0 2591999 && decide (up2 I 0 11 t 12 0 ≤ t)) = true := by
      show (wi t 0 2591999 && decide (I 12 0 ≤ t)) = true
      rw [← h1]; exact c
    rw [if_pos c', if_pos c'] at hM
    rw [Bool.and_eq_true] at c
    obtain ⟨j, hj, he⟩ := wi_nI (m := 2591999) (by decide) c.1
    exact Pair.mk hX hM rfl ⟨⟨rfl, j, by omega, he⟩, h3, h4, h5⟩
  · rw [if_neg c, if_neg c] at hX
    have hM := c_M_clock g 18 I D t
    have c' : ¬ (wi t 0 2591999 && decide (I 12 0 ≤ t)) = true := by rw [← h1]; exact c
    rw [if_neg c', if_neg c'] at hM
    exact Pair.mk hX hM rfl ⟨⟨h1, n, hn, h2⟩, h3, h4, h5⟩
theorem p_mean (h : RelA I) (s v : Int32) : Pair g 2 151 [.int s, .int v] I D (fun I _ => RelA I) := by
  obtain ⟨h1, h2, ⟨h3, h4, h5⟩, h6⟩ := h
  have hX := c_X_mean g 19 I D s v
  by_cases c : (wi s 0 11 && wi v (-2000) 2000) = true
  · rw [if_pos c, if_pos c] at hX
    have hM := c_M_mean g 18 (up2 I 13 s.toNatClampNeg v) D s v
    rw [if_pos c, if_pos c] at hM
    refine Pair.mk hX hM ?_ ⟨h1, h2, ⟨?_, h4, h5⟩, h6⟩
    · rw [h3]; rfl
    · show (fun b => if b = s.toNatClampNeg then v else I 13 b) = (fun b => if b = s.toNatClampNeg then v else I 70 b)
      rw [h3]
  · rw [if_neg c, if_neg c] at hX
    have hM := c_M_mean g 18 I D s v
    rw [if_neg c, if_neg c] at hM
    exact Pair.mk hX hM rfl ⟨h1, h2, ⟨h3, h4, h5⟩, h6⟩
end S30
