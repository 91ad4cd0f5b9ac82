/-! THE RELATION between what the class holds and what the reference holds -/
def RNow (I : MI) : Prop := I 0 11 = I 12 0 ∧ ∃ n, n < 2592000 ∧ I 12 0 = nI n
def RFin (I : MI) : Prop := I 1 0 = I 12 2 ∧ I 1 1 = I 12 1
def RDra (I : MI) : Prop := I 13 = I 70 ∧ I 14 = I 71 ∧ ∀ s, s < 12 → ∃ w, w ≤ 8 ∧ I 71 s = nI w ∧ ∀ j, j < w → I 15 (24 * s + 3 * j) = I 72 (8 * s + j) ∧ I 15 (24 * s + 3 * j + 1) = I 73 (8 * s + j) ∧ I 15 (24 * s + 3 * j + 2) = I 74 (8 * s + j)
def RSur (I : MI) : Prop := I 16 = I 75 ∧ I 17 = I 76 ∧ I 18 = I 77 ∧ I 19 = I 78 ∧ I 20 = I 79 ∧
  ∀ s, s < 60 → ∃ w, w ≤ 8 ∧ I 79 s = nI w ∧ ∀ j, j < w → I 21 (24 * s + 3 * j) = I 80 (8 * s + j) ∧ I 21 (24 * s + 3 * j + 1) = I 81 (8 * s + j) ∧ I 21 (24 * s + 3 * j + 2) = I 82 (8 * s + j)
/-- how many: surveys, gauges, what is taken, fading, shoals, dredgings -/
def RCnt (I : MI) (n m tk fd h q : Nat) : Prop := KX I n m tk fd (h + q) h ∧ KM I n m tk fd (h + q) h ∧ q ≤ 60 ∧ I 4 9 = nI q ∧ I 12 36 = nI q
def RGau (I : MI) : Prop := I 22 = I 83 ∧ I 23 = I 84 ∧ I 24 = I 85 ∧ I 25 = I 86 ∧ I 26 = I 87 ∧ I 27 = I 88 ∧ I 28 = I 89 ∧ (∀ x, noF (I 89 x) = true → I 89 x = 2143289344) ∧ (∀ x, I 86 x = 0 ∨ I 86 x = 1) ∧ ∀ j, j < 10 → ∃ z, z ≤ 120 ∧ I 87 j = nI z
def RSho (I : MI) : Prop := I 30 = I 91 ∧ I 31 = I 92 ∧ I 32 = I 93 ∧ I 33 = I 94 ∧ I 34 = I 95 ∧ I 35 = I 96 ∧ (∀ q, q < 16 → ∃ s, s < 12 ∧ I 91 q = nI s) ∧ LKM I
def RWat (I : MI) (D : MD) (sp : Nat) : Prop := I 0 13 = I 12 29 ∧ sp ≤ 60 ∧ I 5 7 = nI sp ∧ I 12 28 = nI sp ∧ I 36 = I 97 ∧ I 37 = I 98 ∧ I 38 = I 99 ∧ (D 39 = D 100 ∧ ∀ x, fb 300 (D 100 x) ∧ nz (D 100 x)) ∧ I 41 = I 101 ∧ (∀ j, j < 156 → noF (I 101 j) = false) ∧ ∀ s, s < 12 → ∃ c, c ≤ 40 ∧ I 97 s = nI c ∧ ∀ j, j < c → (∃ a, a < 2592000 ∧ I 98 (40 * s + j) = nI a) ∧ fb 300 (D 100 (40 * s + j)) ∧ nz (D 100 (40 * s + j))
def RShp (I : MI) (ms : Nat) : Prop := ms ≤ 40 ∧ I 6 9 = nI ms ∧ I 12 49 = nI ms ∧ I 42 = I 103 ∧ I 43 = I 104 ∧ I 44 = I 105 ∧ I 45 = I 106 ∧ I 46 = (fun j => I 107 (2 * j)) ∧ I 47 = (fun j => I 107 (2 * j + 1)) ∧ I 48 = I 108 ∧ shOk (I 42) (I 46) (I 47) ms ∧ rkOk (I 103) (fun j => I 107 (2 * j)) (fun j => I 107 (2 * j + 1)) (fun j => (I 108 j).toNatClampNeg) ms ∧ ∀ j, j < ms → ∃ k, k ≤ 4 ∧ I 108 j = nI k
def RTra (I : MI) : Prop := I 0 12 = I 12 56 ∧ I 49 = I 109 ∧ ∃ n, n ≤ 100 ∧ I 6 8 = nI n ∧ I 12 57 = nI n
def RFle (I : MI) (ms : Nat) : Prop := ∀ f, f < 4 → (I 55 f = 0 ∧ I 57 f = 0 ∧ I 111 f = -1) ∨ (I 55 f = 1 ∧ ∃ n, n ≤ 8 ∧ I 57 f = nI n ∧ I 111 f = nI n ∧ I 56 f = I 110 f ∧ wi (I 110 f) 0 5 = true ∧ ∀ i, i < n → I 58 (8 * f + i) = I 112 (8 * f + i) ∧ shN (I 112 (8 * f + i)) ms = true)
def RRou (I : MI) : Prop := I 50 = I 117 ∧ I 51 = I 118 ∧ I 52 = I 119 ∧ I 53 = I 120 ∧ RX I ∧ RM I ∧ I 8 6 = I 12 71 ∧ I 8 7 = I 12 72
def RWin (I : MI) : Prop := I 10 3 = I 12 76 ∧ I 10 4 = I 12 77 ∧ ∃ n, n ≤ 20 ∧ I 10 2 = nI n ∧ I 12 73 = nI n ∧ ∀ i, i < n → I 60 i = I 121 i ∧ I 61 i = I 122 i
def RPas (I : MI) (np ms : Nat) : Prop := PX I np ms ∧ PM I np ms ∧ I 62 = I 123 ∧ I 63 = I 124 ∧ I 64 = I 125 ∧ I 65 = I 127 ∧ I 66 = I 128 ∧ I 67 = I 126 ∧ WS np (I 126) (I 128) (I 129) ∧ HC I (I 129) np ∧ (I 69 = fun _ => 0) ∧ (I 131 = fun _ => 0) ∧ I 11 15 = 0 ∧ I 11 16 = I 12 89 ∧ I 11 14 = I 12 88
abbrev RelP (I : MI) (D : MD) (n m tk fd h q sp ms np : Nat) : Prop := RNow I ∧ RFin I ∧ RDra I ∧ RSur I ∧ RCnt I n m tk fd h q ∧ RGau I ∧ RSho I ∧ RWat I D sp ∧ RShp I ms ∧ RTra I ∧ RFle I ms ∧ RRou I ∧ RWin I ∧ RPas I np ms
theorem RelP.now {I : MI} {D : MD} {n m tk fd h q sp ms np : Nat} (H : RelP I D n m tk fd h q sp ms np) : RNow I := H.1
theorem RelP.fin {I : MI} {D : MD} {n m tk fd h q sp ms np : Nat} (H : RelP I D n m tk fd h q sp ms np) : RFin I := H.2.1
theorem RelP.dra {I : MI} {D : MD} {n m tk fd h q sp ms np : Nat} (H : RelP I D n m tk fd h q sp ms np) : RDra I := H.2.2.1
theorem RelP.sur {I : MI} {D : MD} {n m tk fd h q sp ms np : Nat} (H : RelP I D n m tk fd h q sp ms np) : RSur I := H.2.2.2.1
theorem RelP.cnt {I : MI} {D : MD} {n m tk fd h q sp ms np : Nat} (H : RelP I D n m tk fd h q sp ms np) : RCnt I n m tk fd h q := H.2.2.2.2.1
theorem RelP.gau {I : MI} {D : MD} {n m tk fd h q sp ms np : Nat} (H : RelP I D n m tk fd h q sp ms np) : RGau I := H.2.2.2.2.2.1
theorem RelP.sho {I : MI} {D : MD} {n m tk fd h q sp ms np : Nat} (H : RelP I D n m tk fd h q sp ms np) : RSho I := H.2.2.2.2.2.2.1
theorem RelP.wat {I : MI} {D : MD} {n m tk fd h q sp ms np : Nat} (H : RelP I D n m tk fd h q sp ms np) : RWat I D sp := H.2.2.2.2.2.2.2.1
theorem RelP.shp {I : MI} {D : MD} {n m tk fd h q sp ms np : Nat} (H : RelP I D n m tk fd h q sp ms np) : RShp I ms := H.2.2.2.2.2.2.2.2.1
theorem RelP.tra {I : MI} {D : MD} {n m tk fd h q sp ms np : Nat} (H : RelP I D n m tk fd h q sp ms np) : RTra I := H.2.2.2.2.2.2.2.2.2.1
theorem RelP.fle {I : MI} {D : MD} {n m tk fd h q sp ms np : Nat} (H : RelP I D n m tk fd h q sp ms np) : RFle I ms := H.2.2.2.2.2.2.2.2.2.2.1
theorem RelP.rou {I : MI} {D : MD} {n m tk fd h q sp ms np : Nat} (H : RelP I D n m tk fd h q sp ms np) : RRou I := H.2.2.2.2.2.2.2.2.2.2.2.1
theorem RelP.win {I : MI} {D : MD} {n m tk fd h q sp ms np : Nat} (H : RelP I D n m tk fd h q sp ms np) : RWin I := H.2.2.2.2.2.2.2.2.2.2.2.2.1
theorem RelP.pas {I : MI} {D : MD} {n m tk fd h q sp ms np : Nat} (H : RelP I D n m tk fd h q sp ms np) : RPas I np ms := H.2.2.2.2.2.2.2.2.2.2.2.2.2
def Rel (I : MI) (D : MD) : Prop := ∃ n m tk fd h q sp ms np, RelP I D n m tk fd h q sp ms np
theorem rel_ov {I : MI} {D : MD} {n m tk fd h q sp ms np : Nat} (H : RelP I D n m tk fd h q sp ms np) (sc : MI) (sd : MD) : RelP (ovX I sc) (ovD D sd) n m tk fd h q sp ms np := ⟨H.now, H.fin, H.dra, H.sur, H.cnt, H.gau, H.sho, H.wat, H.shp, H.tra, H.fle, H.rou, H.win, H.pas⟩
def isLg (m : Nat) : Bool := Nat.beq m 11 || Nat.beq m 13 || Nat.beq m 14 || Nat.beq m 36 || Nat.beq m 48 || Nat.beq m 52 || Nat.beq m 61
/-- an answer of the kind that the method gives -/
def okO (b : Bool) (o : Option Value) : Prop := match b, o with
  | false, some (.int _) => True
  | true, some (.long _) => True
  | _, _ => False
/-- one call on both: the same answer, and the relation again -/
def Pair (g : Gp) (mx mm : Nat) (As : List Value) (I : MI) (D : MD) : Prop := ∃ P : Po, Con g SHc 20 mx (.ref 0 :: As) I D P ∧ ∀ o J E, P o J E → okO (isLg mx) o ∧ ∃ Q : Po, Con g SHc 20 mm (.ref 12 :: As) J E Q ∧ ∀ o' J' E', Q o' J' E' → o' = o ∧ Rel J' E'
theorem Pair.mk {g : Gp} {mx mm : Nat} {As : List Value} {I I1 I2 : MI} {D D1 D2 : MD} {rX rM : Option Value} (hX : Con g SHc 20 mx (.ref 0 :: As) I D (EqP rX I1 D1)) (hM : Con g SHc 20 mm (.ref 12 :: As) I1 D1 (EqP rM I2 D2)) (hr : rX = rM) (hR : Rel I2 D2) (ht : okO (isLg mx) rX := by exact True.intro) : Pair g mx mm As I D := by
  refine ⟨_, hX, ?_⟩
  rintro o J E ⟨rfl, rfl, rfl⟩
  refine ⟨ht, _, hM, ?_⟩
  rintro o' J' E' ⟨rfl, rfl, rfl⟩
  exact ⟨hr.symm, hR⟩
section S85
variable (g : Gp) (I : MI) (D : MD)
theorem rel_fin {I : MI} {D : MD} {n m tk fd h q sp ms np : Nat} (H : RelP I D n m tk fd h q sp ms np) (f : Int32) : RelP (tellM f (tellX f I)) D n m tk fd h q sp ms np :=
  ⟨H.now, ⟨by show I 1 0 + 1 = I 12 2 + 1; rw [H.fin.1], rfl⟩, H.dra, H.sur, H.cnt, H.gau, H.sho, H.wat, H.shp, H.tra, H.fle, H.rou, H.win, H.pas⟩
theorem p_clock (h : Rel I D) (t : Int32) : Pair g 0 148 [.int t] I D := by
  obtain ⟨n, m, tk, fd, h, q, sp, ms, np, H⟩ := h
  have hX := c_X_clock g 19 I D t
  have e : I 0 11 = I 12 0 := H.now.1
  by_cases c : (wi t 0 2591999 && decide (I 0 11 ≤ t)) = true
  · rw [if_pos c, if_pos c] at hX
    have hM := c_M_clock g 18 (up2 I 0 11 t) D t
    have c' : (wi t 0 2591999 && decide (up2 I 0 11 t 12 0 ≤ t)) = true := by
      show (wi t 0 2591999 && decide (I 12 0 ≤ t)) = true
      rw [← e]; exact c
    rw [if_pos c', if_pos c'] at hM
    rw [Bool.and_eq_true] at c
    obtain ⟨j, hj, he⟩ := wi_nI (m := 2591999) (by decide) c.1
    exact Pair.mk hX hM rfl ⟨n, m, tk, fd, h, q, sp, ms, np, ⟨⟨rfl, j, by omega, he⟩, H.fin, H.dra, H.sur, H.cnt, H.gau, H.sho, H.wat, H.shp, H.tra, H.fle, H.rou, H.win, H.pas⟩⟩
  · rw [if_neg c, if_neg c] at hX
    have hM := c_M_clock g 18 I D t
    have c' : ¬ (wi t 0 2591999 && decide (I 12 0 ≤ t)) = true := by rw [← e]; exact c
    rw [if_neg c', if_neg c'] at hM
    exact Pair.mk hX hM rfl ⟨n, m, tk, fd, h, q, sp, ms, np, H⟩
theorem p_mean (h : Rel I D) (s v : Int32) : Pair g 2 151 [.int s, .int v] I D := by
  obtain ⟨n, m, tk, fd, h, q, sp, ms, np, H⟩ := h
  have hX := c_X_mean g 19 I D s v
  obtain ⟨h3, h4, h5⟩ := H.dra
  by_cases c : (wi s 0 11 && wi v (-2000) 2000) = true
  · rw [if_pos c, if_pos c] at hX
    have hM := c_M_mean g 18 (up2 I 13 s.toNatClampNeg v) D s v
    rw [if_pos c, if_pos c] at hM
    refine Pair.mk hX hM ?_ ⟨n, m, tk, fd, h, q, sp, ms, np, ⟨H.now, H.fin, ⟨?_, h4, h5⟩, H.sur, H.cnt, H.gau, H.sho, H.wat, H.shp, H.tra, H.fle, H.rou, H.win, H.pas⟩⟩
    · rw [h3]; rfl
    · show (fun b => if b = s.toNatClampNeg then v else I 13 b) = (fun b => if b = s.toNatClampNeg then v else I 70 b)
      rw [h3]
  · rw [if_neg c, if_neg c] at hX
    have hM := c_M_mean g 18 I D s v
    rw [if_neg c, if_neg c] at hM
    exact Pair.mk hX hM rfl ⟨n, m, tk, fd, h, q, sp, ms, np, H⟩
end S85
