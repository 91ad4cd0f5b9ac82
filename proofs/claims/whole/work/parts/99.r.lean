/-! the law: its loop -/
def oL_a : List Op := [(1209, .invokevirtual 121, 196, 3, .ref 12)]
def oL_b : List Op := [(1212, .if_icmp .eq 980, 2192, 0, .null), (1215, .iconst 0, 0, 0, .int 0), (1216, .ireturn, 1, 0, .null)]
set_option maxRecDepth 100000 in
theorem kL_a : okS P_L (some .boolean) 4 code 1212 oL_a = true := by decide +kernel
set_option maxRecDepth 100000 in
theorem kL_b : okS P_L (some .boolean) 4 code 1217 oL_b = true := by decide +kernel
abbrev LVT : List (Nat × List Nat) := (1212, [0, 1, 2, 3]) :: LVL
theorem sn_big {v : Int32} (h : vn_sni2f v = true) : ¬ v &&& 2147483647 ≤ 1101004800 := by
  have h1 := inR_nan (sn_nan h)
  rw [inR_v] at h1
  exact of_decide_eq_false h1
theorem tgL {k L : Nat} (hL : L ≤ 3584) (hk : k ≤ 4000) (h : ¬ Int32.ofNat L - 7 < nI k) : k + 7 ≤ L := by
  rw [i32_lt] at h
  have e1 : (nI k).toInt = (k : Int) := nI_toInt (by omega)
  have e2 : (Int32.ofNat L - 7).toInt = (L : Int) - 7 := by
    rw [Int32.toInt_sub, show (Int32.ofNat L).toInt = (L : Int) from nI_toInt (n := L) (by omega), show ((7 : Int32)).toInt = 7 by decide]
    exact Int.bmod_eq_of_le (by omega) (by omega)
  omega
section SLW
variable (g : Gp) {L : Nat} {xs : Nat → Int32} {K : Kt}
theorem law_24 (I : MI) (D : MD) {k : Nat} {P : Po} (hk : k + 7 ≤ L) (hL : L ≤ 3584) (hX : Con g SHc 20 66 [.ref 0, .int (xs (nI k + 1).toNatClampNeg), .int (xs (nI k + 2).toNatClampNeg), .int (xs (nI k + 3).toNatClampNeg)] I D P)
    (hgo : ∀ o J E, P o J E → ∃ x, o = some (.int x) ∧ K 1209 (lvL k) [.int (xs (nI k + 3).toNatClampNeg), .int (xs (nI k + 2).toNatClampNeg), .int (xs (nI k + 1).toNatClampNeg), .ref 12, .int x] J E) : wp SHc (some (L, xs)) RtL (CaD g SHc 21) LVL K 1209 oL_1174 none (lvL k) [] I D := by
  have i1 : inn (nI k + 1) L := inL (j := 1) hk hL (by decide)
  have i2 : inn (nI k + 2) L := inL (j := 2) hk hL (by decide)
  have i3 : inn (nI k + 3) L := inL (j := 3) hk hL (by decide)
  refine And.intro i1 ?_
  refine And.intro i2 ?_
  refine And.intro i3 ?_
  refine call_pr (d := 20) hX (fun o J E hp => ?_)
  obtain ⟨x, rfl, h9⟩ := hgo o J E hp
  refine And.intro i1 ?_
  refine And.intro i2 ?_
  refine And.intro i3 ?_
  exact h9
/-- THE LOOP: what a stretch says holds of K, and the call that draws goes on -/
theorem law_all (hL : L ≤ 3584) (hK : ∀ LV en ops, okS P_L (some .boolean) 4 code en ops = true → ∀ lv st I D, wp SHc (some (L, xs)) RtL (CaD g SHc 21) LV K en ops none lv st I D → K (hdp en ops) lv st I D)
    (hT : ∀ (k : Nat) (s h v x : Int32) (J : MI) (E : MD), vn_sni2f v = true → K 1212 (lvL k) [.int (-2), .int x] J E → K 1209 (lvL k) [.int v, .int h, .int s, .ref 12, .int x] J E) :
    ∀ n k I D, k ≤ 4000 → L + 7 - k < n → Rel I D → K 18 (lvL k) [] I D := by
  intro n
  induction n with
  | zero => intro k I D _ h _; exact absurd h (Nat.not_lt_zero _)
  | succ n ih =>
    intro k I D hk4 hn hr
    refine hK LVL 264 oL_18 kL_18 _ _ I D ?_
    refine And.intro (fun _ => ?_) (fun hgt => ?_)
    · exact hK LVL 2200 oL_2198 kL_2198 _ _ I D ⟨rfl, rfl⟩
    have hk := tgL hL hk4 hgt
    have i0 : inn (nI k) L := inn_nI (by omega) (by omega)
    have hgo : ∀ J E, Rel J E → K 2192 (lvL k) [] J E := by
      intro J E hr2
      refine hK LVL 2198 oL_2192 kL_2192 _ _ J E ?_
      have e7 : nI k + 7 = nI (k + 7) := nI_add k 7
      show K 18 [(0, .ref 999), (1, .ref 0), (2, .ref 12), (3, .int (nI k + 7))] [] J E
      rw [e7]
      exact ih (k + 7) J E (by omega) (by omega) hr2
    have hb : ∀ x J E, Rel J E → K 1212 (lvL k) [.int x, .int x] J E := by
      intro x J E hr2
      refine hK LVL 1217 oL_b kL_b _ _ J E ?_
      exact And.intro (fun _ => hgo J E hr2) (fun z => absurd rfl z)
    refine And.intro i0 ?_
    refine And.intro (fun _ => hK LVL 287 oL_264 kL_264 _ _ I D (law_0 g I D hk hL hr hgo)) ?_
    refine And.intro (fun _ => hK LVL 320 oL_287 kL_287 _ _ I D (law_1 g I D hk hL hr hgo)) ?_
    refine And.intro (fun _ => hK LVL 373 oL_320 kL_320 _ _ I D (law_2 g I D hk hL hr hgo)) ?_
    refine And.intro (fun _ => hK LVL 406 oL_373 kL_373 _ _ I D (law_3 g I D hk hL hr hgo)) ?_
    refine And.intro (fun _ => hK LVL 430 oL_406 kL_406 _ _ I D (law_4 g I D hk hL hr hgo)) ?_
    refine And.intro (fun _ => hK LVL 474 oL_430 kL_430 _ _ I D (law_5 g I D hk hL hr hgo)) ?_
    refine And.intro (fun _ => hK LVL 517 oL_474 kL_474 _ _ I D (law_6 g I D hk hL hr hgo)) ?_
    refine And.intro (fun _ => hK LVL 560 oL_517 kL_517 _ _ I D (law_7 g I D hk hL hr hgo)) ?_
    refine And.intro (fun _ => hK LVL 603 oL_560 kL_560 _ _ I D (law_8 g I D hk hL hr hgo)) ?_
    refine And.intro (fun _ => hK LVL 652 oL_603 kL_603 _ _ I D (law_9 g I D hk hL hr hgo)) ?_
    refine And.intro (fun _ => hK LVL 685 oL_652 kL_652 _ _ I D (law_10 g I D hk hL hr hgo)) ?_
    refine And.intro (fun _ => hK LVL 718 oL_685 kL_685 _ _ I D (law_11 g I D hk hL hr hgo)) ?_
    refine And.intro (fun _ => hK LVL 761 oL_718 kL_718 _ _ I D (law_12 g I D hk hL hr hgo)) ?_
    refine And.intro (fun _ => hK LVL 794 oL_761 kL_761 _ _ I D (law_13 g I D hk hL hr hgo)) ?_
    refine And.intro (fun _ => hK LVL 828 oL_794 kL_794 _ _ I D (law_14 g I D hk hL hr hgo)) ?_
    refine And.intro (fun _ => hK LVL 841 oL_828 kL_828 _ _ I D (law_15 g I D hk hL hr hgo)) ?_
    refine And.intro (fun _ => hK LVL 884 oL_841 kL_841 _ _ I D (law_16 g I D hk hL hr hgo)) ?_
    refine And.intro (fun _ => hK LVL 927 oL_884 kL_884 _ _ I D (law_17 g I D hk hL hr hgo)) ?_
    refine And.intro (fun _ => hK LVL 971 oL_927 kL_927 _ _ I D (law_18 g I D hk hL hr hgo)) ?_
    refine And.intro (fun _ => hK LVL 1005 oL_971 kL_971 _ _ I D (law_19 g I D hk hL hr hgo)) ?_
    refine And.intro (fun _ => hK LVL 1048 oL_1005 kL_1005 _ _ I D (law_20 g I D hk hL hr hgo)) ?_
    refine And.intro (fun _ => hK LVL 1091 oL_1048 kL_1048 _ _ I D (law_21 g I D hk hL hr hgo)) ?_
    refine And.intro (fun _ => hK LVL 1125 oL_1091 kL_1091 _ _ I D (law_22 g I D hk hL hr hgo)) ?_
    refine And.intro (fun _ => hK LVL 1174 oL_1125 kL_1125 _ _ I D (law_23 g I D hk hL hr hgo)) ?_
    refine And.intro (fun _ => hK LVL 1209 oL_1174 kL_1174 _ _ I D ?_) ?_
    · cases hs : vn_sni2f (xs (nI k + 3).toNatClampNeg) with
      | false =>
        obtain ⟨P, hX, hP⟩ := p_tide g I D hr (xs (nI k + 1).toNatClampNeg) (xs (nI k + 2).toNatClampNeg) (xs (nI k + 3).toNatClampNeg) hs
        refine law_24 g I D hk hL hX (fun o J E hp => ?_)
        obtain ⟨ht, Q, hM, hQ⟩ := hP o J E hp
        obtain ⟨x, rfl⟩ := okO_f ht
        refine ⟨x, rfl, ?_⟩
        refine hK LVT 1212 oL_a kL_a _ _ J E ?_
        refine call_pr (d := 20) hM (fun o2 J2 E2 hq => ?_)
        obtain ⟨rfl, hr2⟩ := hQ o2 J2 E2 hq
        exact hb x J2 E2 hr2
      | true =>
        have hX := c_X_tide g 19 I D (xs (nI k + 1).toNatClampNeg) (xs (nI k + 2).toNatClampNeg) (xs (nI k + 3).toNatClampNeg)
        rw [decide_eq_false (sn_big hs), Bool.and_false] at hX
        refine law_24 g I D hk hL hX (fun o J E hp => ?_)
        obtain ⟨rfl, rfl, rfl⟩ := hp
        exact ⟨-2, rfl, hT k _ _ _ _ J E hs (hb (-2) J E hr)⟩
    refine And.intro (fun _ => hK LVL 1250 oL_1217 kL_1217 _ _ I D (law_25 g I D hk hL hr hgo)) ?_
    refine And.intro (fun _ => hK LVL 1325 oL_1250 kL_1250 _ _ I D (law_26 g I D hk hL hr hgo)) ?_
    refine And.intro (fun _ => hK LVL 1358 oL_1325 kL_1325 _ _ I D (law_27 g I D hk hL hr hgo)) ?_
    refine And.intro (fun _ => hK LVL 1371 oL_1358 kL_1358 _ _ I D (law_28 g I D hk hL hr hgo)) ?_
    refine And.intro (fun _ => hK LVL 1394 oL_1371 kL_1371 _ _ I D (law_29 g I D hk hL hr hgo)) ?_
    refine And.intro (fun _ => hK LVL 1427 oL_1394 kL_1394 _ _ I D (law_30 g I D hk hL hr hgo)) ?_
    refine And.intro (fun _ => hK LVL 1470 oL_1427 kL_1427 _ _ I D (law_31 g I D hk hL hr hgo)) ?_
    refine And.intro (fun _ => hK LVL 1513 oL_1470 kL_1470 _ _ I D (law_32 g I D hk hL hr hgo)) ?_
    refine And.intro (fun _ => hK LVL 1546 oL_1513 kL_1513 _ _ I D (law_33 g I D hk hL hr hgo)) ?_
    refine And.intro (fun _ => hK LVL 1609 oL_1546 kL_1546 _ _ I D (law_34 g I D hk hL hr hgo)) ?_
    refine And.intro (fun _ => hK LVL 1642 oL_1609 kL_1609 _ _ I D (law_35 g I D hk hL hr hgo)) ?_
    refine And.intro (fun _ => hK LVL 1695 oL_1642 kL_1642 _ _ I D (law_36 g I D hk hL hr hgo)) ?_
    refine And.intro (fun _ => hK LVL 1718 oL_1695 kL_1695 _ _ I D (law_37 g I D hk hL hr hgo)) ?_
    refine And.intro (fun _ => hK LVL 1751 oL_1718 kL_1718 _ _ I D (law_38 g I D hk hL hr hgo)) ?_
    refine And.intro (fun _ => hK LVL 1804 oL_1751 kL_1751 _ _ I D (law_39 g I D hk hL hr hgo)) ?_
    refine And.intro (fun _ => hK LVL 1847 oL_1804 kL_1804 _ _ I D (law_40 g I D hk hL hr hgo)) ?_
    refine And.intro (fun _ => hK LVL 1900 oL_1847 kL_1847 _ _ I D (law_41 g I D hk hL hr hgo)) ?_
    refine And.intro (fun _ => hK LVL 1949 oL_1900 kL_1900 _ _ I D (law_42 g I D hk hL hr hgo)) ?_
    refine And.intro (fun _ => hK LVL 1972 oL_1949 kL_1949 _ _ I D (law_43 g I D hk hL hr hgo)) ?_
    refine And.intro (fun _ => hK LVL 2015 oL_1972 kL_1972 _ _ I D (law_44 g I D hk hL hr hgo)) ?_
    refine And.intro (fun _ => hK LVL 2028 oL_2015 kL_2015 _ _ I D (law_45 g I D hk hL hr hgo)) ?_
    refine And.intro (fun _ => hK LVL 2061 oL_2028 kL_2028 _ _ I D (law_46 g I D hk hL hr hgo)) ?_
    refine And.intro (fun _ => hK LVL 2084 oL_2061 kL_2061 _ _ I D (law_47 g I D hk hL hr hgo)) ?_
    refine And.intro (fun _ => hK LVL 2107 oL_2084 kL_2084 _ _ I D (law_48 g I D hk hL hr hgo)) ?_
    refine And.intro (fun _ => hK LVL 2120 oL_2107 kL_2107 _ _ I D (law_49 g I D hk hL hr hgo)) ?_
    refine And.intro (fun _ => hK LVL 2143 oL_2120 kL_2120 _ _ I D (law_50 g I D hk hL hr hgo)) ?_
    refine And.intro (fun _ => hK LVL 2166 oL_2143 kL_2143 _ _ I D (law_51 g I D hk hL hr hgo)) ?_
    refine And.intro (fun _ => hK LVL 2179 oL_2166 kL_2166 _ _ I D (law_52 g I D hk hL hr hgo)) ?_
    refine And.intro (fun _ => hK LVL 2192 oL_2179 kL_2179 _ _ I D (law_53 g I D hk hL hr hgo)) ?_
    exact fun _ => hgo I D hr
end SLW
