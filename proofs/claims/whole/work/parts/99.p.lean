/-! the law: a call of each on both -/
theorem call_pr {g : Gp} {d mid : Nat} {As : List Value} {I : MI} {D : MD} {P : Po} {k : Po} (hC : Con g SHc d mid As I D P) (hk : ∀ o J E, P o J E → k o J E) : CaD g SHc (d + 1) mid As I D k := ⟨P, hC, hk⟩
theorem okO_f {o : Option Value} (h : okO false o) : ∃ x, o = some (.int x) := by
  cases o with
  | none => exact False.elim h
  | some v => cases v <;> first | exact ⟨_, rfl⟩ | exact False.elim h
theorem okO_t {o : Option Value} (h : okO true o) : ∃ x, o = some (.long x) := by
  cases o with
  | none => exact False.elim h
  | some v => cases v <;> first | exact ⟨_, rfl⟩ | exact False.elim h
theorem lg_self (x : Int64) : lg_cmp x x = 0 := by
  unfold lg_cmp
  rw [if_neg (Int64.lt_irrefl), if_pos rfl]
def RtL : Rk := fun i _ st _ _ => i = .ireturn ∧ st = [.int 1]
abbrev lvL (k : Nat) : Lv := [(0, .ref 999), (1, .ref 0), (2, .ref 12), (3, .int (nI k))]
theorem inL {k L j : Nat} (hk : k + 7 ≤ L) (hL : L ≤ 3584) (hj : j ≤ 6) : inn (nI k + nI j) L := by
  rw [nI_add]
  exact inn_nI (by omega) (by omega)
theorem law_0 (g : Gp) (I : MI) (D : MD) {k L : Nat} {xs : Nat → Int32} {K : Kt} (hk : k + 7 ≤ L) (hL : L ≤ 3584) (hr : Rel I D) (hgo : ∀ J E, Rel J E → K 2192 (lvL k) [] J E) : wp SHc (some (L, xs)) RtL (CaD g SHc 21) LVL K 287 oL_264 none (lvL k) [] I D := by
  have i1 : inn (nI k + 1) L := inL (j := 1) hk hL (by decide)
  refine And.intro i1 ?_
  obtain ⟨P, hX, hP⟩ := p_clock g I D hr (xs (nI k + 1).toNatClampNeg)
  refine call_pr (d := 20) hX (fun o J E hp => ?_)
  obtain ⟨ht, Q, hM, hQ⟩ := hP o J E hp
  obtain ⟨x, rfl⟩ := okO_f ht
  refine And.intro i1 ?_
  refine call_pr (d := 20) hM (fun o2 J2 E2 hq => ?_)
  obtain ⟨rfl, hr2⟩ := hQ o2 J2 E2 hq
  refine And.intro (fun _ => hgo J2 E2 hr2) (fun z => absurd rfl z)
theorem law_1 (g : Gp) (I : MI) (D : MD) {k L : Nat} {xs : Nat → Int32} {K : Kt} (hk : k + 7 ≤ L) (hL : L ≤ 3584) (hr : Rel I D) (hgo : ∀ J E, Rel J E → K 2192 (lvL k) [] J E) : wp SHc (some (L, xs)) RtL (CaD g SHc 21) LVL K 320 oL_287 none (lvL k) [] I D := by
  have i1 : inn (nI k + 1) L := inL (j := 1) hk hL (by decide)
  have i2 : inn (nI k + 2) L := inL (j := 2) hk hL (by decide)
  refine And.intro i1 ?_
  refine And.intro i2 ?_
  obtain ⟨P, hX, hP⟩ := p_mean g I D hr (xs (nI k + 1).toNatClampNeg) (xs (nI k + 2).toNatClampNeg)
  refine call_pr (d := 20) hX (fun o J E hp => ?_)
  obtain ⟨ht, Q, hM, hQ⟩ := hP o J E hp
  obtain ⟨x, rfl⟩ := okO_f ht
  refine And.intro i1 ?_
  refine And.intro i2 ?_
  refine call_pr (d := 20) hM (fun o2 J2 E2 hq => ?_)
  obtain ⟨rfl, hr2⟩ := hQ o2 J2 E2 hq
  refine And.intro (fun _ => hgo J2 E2 hr2) (fun z => absurd rfl z)
theorem law_2 (g : Gp) (I : MI) (D : MD) {k L : Nat} {xs : Nat → Int32} {K : Kt} (hk : k + 7 ≤ L) (hL : L ≤ 3584) (hr : Rel I D) (hgo : ∀ J E, Rel J E → K 2192 (lvL k) [] J E) : wp SHc (some (L, xs)) RtL (CaD g SHc 21) LVL K 373 oL_320 none (lvL k) [] I D := by
  have i1 : inn (nI k + 1) L := inL (j := 1) hk hL (by decide)
  have i2 : inn (nI k + 2) L := inL (j := 2) hk hL (by decide)
  have i3 : inn (nI k + 3) L := inL (j := 3) hk hL (by decide)
  have i4 : inn (nI k + 4) L := inL (j := 4) hk hL (by decide)
  refine And.intro i1 ?_
  refine And.intro i2 ?_
  refine And.intro i3 ?_
  refine And.intro i4 ?_
  obtain ⟨P, hX, hP⟩ := p_wave g I D hr (xs (nI k + 1).toNatClampNeg) (xs (nI k + 2).toNatClampNeg) (xs (nI k + 3).toNatClampNeg) (xs (nI k + 4).toNatClampNeg)
  refine call_pr (d := 20) hX (fun o J E hp => ?_)
  obtain ⟨ht, Q, hM, hQ⟩ := hP o J E hp
  obtain ⟨x, rfl⟩ := okO_f ht
  refine And.intro i1 ?_
  refine And.intro i2 ?_
  refine And.intro i3 ?_
  refine And.intro i4 ?_
  refine call_pr (d := 20) hM (fun o2 J2 E2 hq => ?_)
  obtain ⟨rfl, hr2⟩ := hQ o2 J2 E2 hq
  refine And.intro (fun _ => hgo J2 E2 hr2) (fun z => absurd rfl z)
theorem law_3 (g : Gp) (I : MI) (D : MD) {k L : Nat} {xs : Nat → Int32} {K : Kt} (hk : k + 7 ≤ L) (hL : L ≤ 3584) (hr : Rel I D) (hgo : ∀ J E, Rel J E → K 2192 (lvL k) [] J E) : wp SHc (some (L, xs)) RtL (CaD g SHc 21) LVL K 406 oL_373 none (lvL k) [] I D := by
  have i1 : inn (nI k + 1) L := inL (j := 1) hk hL (by decide)
  have i2 : inn (nI k + 2) L := inL (j := 2) hk hL (by decide)
  refine And.intro i1 ?_
  refine And.intro i2 ?_
  obtain ⟨P, hX, hP⟩ := p_survey g I D hr (xs (nI k + 1).toNatClampNeg) (xs (nI k + 2).toNatClampNeg)
  refine call_pr (d := 20) hX (fun o J E hp => ?_)
  obtain ⟨ht, Q, hM, hQ⟩ := hP o J E hp
  obtain ⟨x, rfl⟩ := okO_f ht
  refine And.intro i1 ?_
  refine And.intro i2 ?_
  refine call_pr (d := 20) hM (fun o2 J2 E2 hq => ?_)
  obtain ⟨rfl, hr2⟩ := hQ o2 J2 E2 hq
  refine And.intro (fun _ => hgo J2 E2 hr2) (fun z => absurd rfl z)
theorem law_4 (g : Gp) (I : MI) (D : MD) {k L : Nat} {xs : Nat → Int32} {K : Kt} (hk : k + 7 ≤ L) (hL : L ≤ 3584) (hr : Rel I D) (hgo : ∀ J E, Rel J E → K 2192 (lvL k) [] J E) : wp SHc (some (L, xs)) RtL (CaD g SHc 21) LVL K 430 oL_406 none (lvL k) [] I D := by
  have i1 : inn (nI k + 1) L := inL (j := 1) hk hL (by decide)
  refine And.intro i1 ?_
  obtain ⟨P, hX, hP⟩ := p_cos g I D hr (xs (nI k + 1).toNatClampNeg)
  refine call_pr (d := 20) hX (fun o J E hp => ?_)
  obtain ⟨ht, Q, hM, hQ⟩ := hP o J E hp
  obtain ⟨x, rfl⟩ := okO_t ht
  refine And.intro i1 ?_
  refine call_pr (d := 20) hM (fun o2 J2 E2 hq => ?_)
  obtain ⟨rfl, hr2⟩ := hQ o2 J2 E2 hq
  refine And.intro (fun _ => hgo J2 E2 hr2) (fun z => absurd (lg_self x) z)
theorem law_5 (g : Gp) (I : MI) (D : MD) {k L : Nat} {xs : Nat → Int32} {K : Kt} (hk : k + 7 ≤ L) (hL : L ≤ 3584) (hr : Rel I D) (hgo : ∀ J E, Rel J E → K 2192 (lvL k) [] J E) : wp SHc (some (L, xs)) RtL (CaD g SHc 21) LVL K 474 oL_430 none (lvL k) [] I D := by
  have i1 : inn (nI k + 1) L := inL (j := 1) hk hL (by decide)
  have i2 : inn (nI k + 2) L := inL (j := 2) hk hL (by decide)
  have i3 : inn (nI k + 3) L := inL (j := 3) hk hL (by decide)
  refine And.intro i1 ?_
  refine And.intro i2 ?_
  refine And.intro i3 ?_
  obtain ⟨P, hX, hP⟩ := p_height g I D hr (xs (nI k + 1).toNatClampNeg) (xs (nI k + 2).toNatClampNeg) (xs (nI k + 3).toNatClampNeg)
  refine call_pr (d := 20) hX (fun o J E hp => ?_)
  obtain ⟨ht, Q, hM, hQ⟩ := hP o J E hp
  obtain ⟨x, rfl⟩ := okO_t ht
  refine And.intro i1 ?_
  refine And.intro i2 ?_
  refine And.intro i3 ?_
  refine call_pr (d := 20) hM (fun o2 J2 E2 hq => ?_)
  obtain ⟨rfl, hr2⟩ := hQ o2 J2 E2 hq
  refine And.intro (fun _ => hgo J2 E2 hr2) (fun z => absurd (lg_self x) z)
theorem law_6 (g : Gp) (I : MI) (D : MD) {k L : Nat} {xs : Nat → Int32} {K : Kt} (hk : k + 7 ≤ L) (hL : L ≤ 3584) (hr : Rel I D) (hgo : ∀ J E, Rel J E → K 2192 (lvL k) [] J E) : wp SHc (some (L, xs)) RtL (CaD g SHc 21) LVL K 517 oL_474 none (lvL k) [] I D := by
  have i1 : inn (nI k + 1) L := inL (j := 1) hk hL (by decide)
  have i2 : inn (nI k + 2) L := inL (j := 2) hk hL (by decide)
  have i3 : inn (nI k + 3) L := inL (j := 3) hk hL (by decide)
  refine And.intro i1 ?_
  refine And.intro i2 ?_
  refine And.intro i3 ?_
  obtain ⟨P, hX, hP⟩ := p_force g I D hr (xs (nI k + 1).toNatClampNeg) (xs (nI k + 2).toNatClampNeg) (xs (nI k + 3).toNatClampNeg)
  refine call_pr (d := 20) hX (fun o J E hp => ?_)
  obtain ⟨ht, Q, hM, hQ⟩ := hP o J E hp
  obtain ⟨x, rfl⟩ := okO_f ht
  refine And.intro i1 ?_
  refine And.intro i2 ?_
  refine And.intro i3 ?_
  refine call_pr (d := 20) hM (fun o2 J2 E2 hq => ?_)
  obtain ⟨rfl, hr2⟩ := hQ o2 J2 E2 hq
  refine And.intro (fun _ => hgo J2 E2 hr2) (fun z => absurd rfl z)
theorem law_7 (g : Gp) (I : MI) (D : MD) {k L : Nat} {xs : Nat → Int32} {K : Kt} (hk : k + 7 ≤ L) (hL : L ≤ 3584) (hr : Rel I D) (hgo : ∀ J E, Rel J E → K 2192 (lvL k) [] J E) : wp SHc (some (L, xs)) RtL (CaD g SHc 21) LVL K 560 oL_517 none (lvL k) [] I D := by
  have i1 : inn (nI k + 1) L := inL (j := 1) hk hL (by decide)
  have i2 : inn (nI k + 2) L := inL (j := 2) hk hL (by decide)
  have i3 : inn (nI k + 3) L := inL (j := 3) hk hL (by decide)
  refine And.intro i1 ?_
  refine And.intro i2 ?_
  refine And.intro i3 ?_
  obtain ⟨P, hX, hP⟩ := p_gauge g I D hr (xs (nI k + 1).toNatClampNeg) (xs (nI k + 2).toNatClampNeg) (xs (nI k + 3).toNatClampNeg)
  refine call_pr (d := 20) hX (fun o J E hp => ?_)
  obtain ⟨ht, Q, hM, hQ⟩ := hP o J E hp
  obtain ⟨x, rfl⟩ := okO_f ht
  refine And.intro i1 ?_
  refine And.intro i2 ?_
  refine And.intro i3 ?_
  refine call_pr (d := 20) hM (fun o2 J2 E2 hq => ?_)
  obtain ⟨rfl, hr2⟩ := hQ o2 J2 E2 hq
  refine And.intro (fun _ => hgo J2 E2 hr2) (fun z => absurd rfl z)
theorem law_8 (g : Gp) (I : MI) (D : MD) {k L : Nat} {xs : Nat → Int32} {K : Kt} (hk : k + 7 ≤ L) (hL : L ≤ 3584) (hr : Rel I D) (hgo : ∀ J E, Rel J E → K 2192 (lvL k) [] J E) : wp SHc (some (L, xs)) RtL (CaD g SHc 21) LVL K 603 oL_560 none (lvL k) [] I D := by
  have i1 : inn (nI k + 1) L := inL (j := 1) hk hL (by decide)
  have i2 : inn (nI k + 2) L := inL (j := 2) hk hL (by decide)
  have i3 : inn (nI k + 3) L := inL (j := 3) hk hL (by decide)
  refine And.intro i1 ?_
  refine And.intro i2 ?_
  refine And.intro i3 ?_
  obtain ⟨P, hX, hP⟩ := p_reading g I D hr (xs (nI k + 1).toNatClampNeg) (xs (nI k + 2).toNatClampNeg) (xs (nI k + 3).toNatClampNeg)
  refine call_pr (d := 20) hX (fun o J E hp => ?_)
  obtain ⟨ht, Q, hM, hQ⟩ := hP o J E hp
  obtain ⟨x, rfl⟩ := okO_f ht
  refine And.intro i1 ?_
  refine And.intro i2 ?_
  refine And.intro i3 ?_
  refine call_pr (d := 20) hM (fun o2 J2 E2 hq => ?_)
  obtain ⟨rfl, hr2⟩ := hQ o2 J2 E2 hq
  refine And.intro (fun _ => hgo J2 E2 hr2) (fun z => absurd rfl z)
theorem law_9 (g : Gp) (I : MI) (D : MD) {k L : Nat} {xs : Nat → Int32} {K : Kt} (hk : k + 7 ≤ L) (hL : L ≤ 3584) (hr : Rel I D) (hgo : ∀ J E, Rel J E → K 2192 (lvL k) [] J E) : wp SHc (some (L, xs)) RtL (CaD g SHc 21) LVL K 652 oL_603 none (lvL k) [] I D := by
  have i1 : inn (nI k + 1) L := inL (j := 1) hk hL (by decide)
  have i2 : inn (nI k + 2) L := inL (j := 2) hk hL (by decide)
  refine And.intro i1 ?_
  refine And.intro i2 ?_
  refine And.intro (fun bz => ?_) (fun bz => ?_)
  · obtain ⟨P, hX, hP⟩ := p_out g I D hr (xs (nI k + 1).toNatClampNeg) (0) (by decide)
    refine call_pr (d := 20) hX (fun o J E hp => ?_)
    obtain ⟨ht, Q, hM, hQ⟩ := hP o J E hp
    obtain ⟨x, rfl⟩ := okO_f ht
    refine And.intro i1 ?_
    refine And.intro i2 ?_
    refine And.intro (fun _ => ?_) (fun z => absurd bz z)
    refine call_pr (d := 20) hM (fun o2 J2 E2 hq => ?_)
    obtain ⟨rfl, hr2⟩ := hQ o2 J2 E2 hq
    refine And.intro (fun _ => hgo J2 E2 hr2) (fun z => absurd rfl z)
  · obtain ⟨P, hX, hP⟩ := p_out g I D hr (xs (nI k + 1).toNatClampNeg) (1) (by decide)
    refine call_pr (d := 20) hX (fun o J E hp => ?_)
    obtain ⟨ht, Q, hM, hQ⟩ := hP o J E hp
    obtain ⟨x, rfl⟩ := okO_f ht
    refine And.intro i1 ?_
    refine And.intro i2 ?_
    refine And.intro (fun z => absurd z bz) (fun _ => ?_)
    refine call_pr (d := 20) hM (fun o2 J2 E2 hq => ?_)
    obtain ⟨rfl, hr2⟩ := hQ o2 J2 E2 hq
    refine And.intro (fun _ => hgo J2 E2 hr2) (fun z => absurd rfl z)
theorem law_10 (g : Gp) (I : MI) (D : MD) {k L : Nat} {xs : Nat → Int32} {K : Kt} (hk : k + 7 ≤ L) (hL : L ≤ 3584) (hr : Rel I D) (hgo : ∀ J E, Rel J E → K 2192 (lvL k) [] J E) : wp SHc (some (L, xs)) RtL (CaD g SHc 21) LVL K 685 oL_652 none (lvL k) [] I D := by
  have i1 : inn (nI k + 1) L := inL (j := 1) hk hL (by decide)
  have i2 : inn (nI k + 2) L := inL (j := 2) hk hL (by decide)
  refine And.intro i1 ?_
  refine And.intro i2 ?_
  obtain ⟨P, hX, hP⟩ := p_at g I D hr (xs (nI k + 1).toNatClampNeg) (xs (nI k + 2).toNatClampNeg)
  refine call_pr (d := 20) hX (fun o J E hp => ?_)
  obtain ⟨ht, Q, hM, hQ⟩ := hP o J E hp
  obtain ⟨x, rfl⟩ := okO_f ht
  refine And.intro i1 ?_
  refine And.intro i2 ?_
  refine call_pr (d := 20) hM (fun o2 J2 E2 hq => ?_)
  obtain ⟨rfl, hr2⟩ := hQ o2 J2 E2 hq
  refine And.intro (fun _ => hgo J2 E2 hr2) (fun z => absurd rfl z)
theorem law_11 (g : Gp) (I : MI) (D : MD) {k L : Nat} {xs : Nat → Int32} {K : Kt} (hk : k + 7 ≤ L) (hL : L ≤ 3584) (hr : Rel I D) (hgo : ∀ J E, Rel J E → K 2192 (lvL k) [] J E) : wp SHc (some (L, xs)) RtL (CaD g SHc 21) LVL K 718 oL_685 none (lvL k) [] I D := by
  have i1 : inn (nI k + 1) L := inL (j := 1) hk hL (by decide)
  have i2 : inn (nI k + 2) L := inL (j := 2) hk hL (by decide)
  refine And.intro i1 ?_
  refine And.intro i2 ?_
  obtain ⟨P, hX, hP⟩ := p_air g I D hr (xs (nI k + 1).toNatClampNeg) (xs (nI k + 2).toNatClampNeg)
  refine call_pr (d := 20) hX (fun o J E hp => ?_)
  obtain ⟨ht, Q, hM, hQ⟩ := hP o J E hp
  obtain ⟨x, rfl⟩ := okO_f ht
  refine And.intro i1 ?_
  refine And.intro i2 ?_
  refine call_pr (d := 20) hM (fun o2 J2 E2 hq => ?_)
  obtain ⟨rfl, hr2⟩ := hQ o2 J2 E2 hq
  refine And.intro (fun _ => hgo J2 E2 hr2) (fun z => absurd rfl z)
theorem law_12 (g : Gp) (I : MI) (D : MD) {k L : Nat} {xs : Nat → Int32} {K : Kt} (hk : k + 7 ≤ L) (hL : L ≤ 3584) (hr : Rel I D) (hgo : ∀ J E, Rel J E → K 2192 (lvL k) [] J E) : wp SHc (some (L, xs)) RtL (CaD g SHc 21) LVL K 761 oL_718 none (lvL k) [] I D := by
  have i1 : inn (nI k + 1) L := inL (j := 1) hk hL (by decide)
  have i2 : inn (nI k + 2) L := inL (j := 2) hk hL (by decide)
  have i3 : inn (nI k + 3) L := inL (j := 3) hk hL (by decide)
  refine And.intro i1 ?_
  refine And.intro i2 ?_
  refine And.intro i3 ?_
  obtain ⟨P, hX, hP⟩ := p_compare g I D hr (xs (nI k + 1).toNatClampNeg) (xs (nI k + 2).toNatClampNeg) (xs (nI k + 3).toNatClampNeg)
  refine call_pr (d := 20) hX (fun o J E hp => ?_)
  obtain ⟨ht, Q, hM, hQ⟩ := hP o J E hp
  obtain ⟨x, rfl⟩ := okO_f ht
  refine And.intro i1 ?_
  refine And.intro i2 ?_
  refine And.intro i3 ?_
  refine call_pr (d := 20) hM (fun o2 J2 E2 hq => ?_)
  obtain ⟨rfl, hr2⟩ := hQ o2 J2 E2 hq
  refine And.intro (fun _ => hgo J2 E2 hr2) (fun z => absurd rfl z)
theorem law_13 (g : Gp) (I : MI) (D : MD) {k L : Nat} {xs : Nat → Int32} {K : Kt} (hk : k + 7 ≤ L) (hL : L ≤ 3584) (hr : Rel I D) (hgo : ∀ J E, Rel J E → K 2192 (lvL k) [] J E) : wp SHc (some (L, xs)) RtL (CaD g SHc 21) LVL K 794 oL_761 none (lvL k) [] I D := by
  have i1 : inn (nI k + 1) L := inL (j := 1) hk hL (by decide)
  have i2 : inn (nI k + 2) L := inL (j := 2) hk hL (by decide)
  refine And.intro i1 ?_
  refine And.intro i2 ?_
  obtain ⟨P, hX, hP⟩ := p_rule g I D hr (xs (nI k + 1).toNatClampNeg) (xs (nI k + 2).toNatClampNeg)
  refine call_pr (d := 20) hX (fun o J E hp => ?_)
  obtain ⟨ht, Q, hM, hQ⟩ := hP o J E hp
  obtain ⟨x, rfl⟩ := okO_f ht
  refine And.intro i1 ?_
  refine And.intro i2 ?_
  refine call_pr (d := 20) hM (fun o2 J2 E2 hq => ?_)
  obtain ⟨rfl, hr2⟩ := hQ o2 J2 E2 hq
  refine And.intro (fun _ => hgo J2 E2 hr2) (fun z => absurd rfl z)
theorem law_14 (g : Gp) (I : MI) (D : MD) {k L : Nat} {xs : Nat → Int32} {K : Kt} (hk : k + 7 ≤ L) (hL : L ≤ 3584) (hr : Rel I D) (hgo : ∀ J E, Rel J E → K 2192 (lvL k) [] J E) : wp SHc (some (L, xs)) RtL (CaD g SHc 21) LVL K 828 oL_794 none (lvL k) [] I D := by
  have i1 : inn (nI k + 1) L := inL (j := 1) hk hL (by decide)
  have i2 : inn (nI k + 2) L := inL (j := 2) hk hL (by decide)
  refine And.intro i1 ?_
  refine And.intro i2 ?_
  obtain ⟨P, hX, hP⟩ := p_surge g I D hr (xs (nI k + 1).toNatClampNeg) (xs (nI k + 2).toNatClampNeg)
  refine call_pr (d := 20) hX (fun o J E hp => ?_)
  obtain ⟨ht, Q, hM, hQ⟩ := hP o J E hp
  obtain ⟨x, rfl⟩ := okO_t ht
  refine And.intro i1 ?_
  refine And.intro i2 ?_
  refine call_pr (d := 20) hM (fun o2 J2 E2 hq => ?_)
  obtain ⟨rfl, hr2⟩ := hQ o2 J2 E2 hq
  refine And.intro (fun _ => hgo J2 E2 hr2) (fun z => absurd (lg_self x) z)
theorem law_15 (g : Gp) (I : MI) (D : MD) {k L : Nat} {xs : Nat → Int32} {K : Kt} (hk : k + 7 ≤ L) (hL : L ≤ 3584) (hr : Rel I D) (hgo : ∀ J E, Rel J E → K 2192 (lvL k) [] J E) : wp SHc (some (L, xs)) RtL (CaD g SHc 21) LVL K 841 oL_828 none (lvL k) [] I D := by
  obtain ⟨P, hX, hP⟩ := p_lacking g I D hr 
  refine call_pr (d := 20) hX (fun o J E hp => ?_)
  obtain ⟨ht, Q, hM, hQ⟩ := hP o J E hp
  obtain ⟨x, rfl⟩ := okO_f ht
  refine call_pr (d := 20) hM (fun o2 J2 E2 hq => ?_)
  obtain ⟨rfl, hr2⟩ := hQ o2 J2 E2 hq
  refine And.intro (fun _ => hgo J2 E2 hr2) (fun z => absurd rfl z)
theorem law_16 (g : Gp) (I : MI) (D : MD) {k L : Nat} {xs : Nat → Int32} {K : Kt} (hk : k + 7 ≤ L) (hL : L ≤ 3584) (hr : Rel I D) (hgo : ∀ J E, Rel J E → K 2192 (lvL k) [] J E) : wp SHc (some (L, xs)) RtL (CaD g SHc 21) LVL K 884 oL_841 none (lvL k) [] I D := by
  have i1 : inn (nI k + 1) L := inL (j := 1) hk hL (by decide)
  have i2 : inn (nI k + 2) L := inL (j := 2) hk hL (by decide)
  have i3 : inn (nI k + 3) L := inL (j := 3) hk hL (by decide)
  refine And.intro i1 ?_
  refine And.intro i2 ?_
  refine And.intro i3 ?_
  obtain ⟨P, hX, hP⟩ := p_shoal g I D hr (xs (nI k + 1).toNatClampNeg) (xs (nI k + 2).toNatClampNeg) (xs (nI k + 3).toNatClampNeg)
  refine call_pr (d := 20) hX (fun o J E hp => ?_)
  obtain ⟨ht, Q, hM, hQ⟩ := hP o J E hp
  obtain ⟨x, rfl⟩ := okO_f ht
  refine And.intro i1 ?_
  refine And.intro i2 ?_
  refine And.intro i3 ?_
  refine call_pr (d := 20) hM (fun o2 J2 E2 hq => ?_)
  obtain ⟨rfl, hr2⟩ := hQ o2 J2 E2 hq
  refine And.intro (fun _ => hgo J2 E2 hr2) (fun z => absurd rfl z)
theorem law_17 (g : Gp) (I : MI) (D : MD) {k L : Nat} {xs : Nat → Int32} {K : Kt} (hk : k + 7 ≤ L) (hL : L ≤ 3584) (hr : Rel I D) (hgo : ∀ J E, Rel J E → K 2192 (lvL k) [] J E) : wp SHc (some (L, xs)) RtL (CaD g SHc 21) LVL K 927 oL_884 none (lvL k) [] I D := by
  have i1 : inn (nI k + 1) L := inL (j := 1) hk hL (by decide)
  have i2 : inn (nI k + 2) L := inL (j := 2) hk hL (by decide)
  have i3 : inn (nI k + 3) L := inL (j := 3) hk hL (by decide)
  refine And.intro i1 ?_
  refine And.intro i2 ?_
  refine And.intro i3 ?_
  obtain ⟨P, hX, hP⟩ := p_dredge g I D hr (xs (nI k + 1).toNatClampNeg) (xs (nI k + 2).toNatClampNeg) (xs (nI k + 3).toNatClampNeg)
  refine call_pr (d := 20) hX (fun o J E hp => ?_)
  obtain ⟨ht, Q, hM, hQ⟩ := hP o J E hp
  obtain ⟨x, rfl⟩ := okO_f ht
  refine And.intro i1 ?_
  refine And.intro i2 ?_
  refine And.intro i3 ?_
  refine call_pr (d := 20) hM (fun o2 J2 E2 hq => ?_)
  obtain ⟨rfl, hr2⟩ := hQ o2 J2 E2 hq
  refine And.intro (fun _ => hgo J2 E2 hr2) (fun z => absurd rfl z)
theorem law_18 (g : Gp) (I : MI) (D : MD) {k L : Nat} {xs : Nat → Int32} {K : Kt} (hk : k + 7 ≤ L) (hL : L ≤ 3584) (hr : Rel I D) (hgo : ∀ J E, Rel J E → K 2192 (lvL k) [] J E) : wp SHc (some (L, xs)) RtL (CaD g SHc 21) LVL K 971 oL_927 none (lvL k) [] I D := by
  have i1 : inn (nI k + 1) L := inL (j := 1) hk hL (by decide)
  have i2 : inn (nI k + 2) L := inL (j := 2) hk hL (by decide)
  have i3 : inn (nI k + 3) L := inL (j := 3) hk hL (by decide)
  refine And.intro i1 ?_
  refine And.intro i2 ?_
  refine And.intro i3 ?_
  obtain ⟨P, hX, hP⟩ := p_depth g I D hr (xs (nI k + 1).toNatClampNeg) (xs (nI k + 2).toNatClampNeg) (xs (nI k + 3).toNatClampNeg)
  refine call_pr (d := 20) hX (fun o J E hp => ?_)
  obtain ⟨ht, Q, hM, hQ⟩ := hP o J E hp
  obtain ⟨x, rfl⟩ := okO_t ht
  refine And.intro i1 ?_
  refine And.intro i2 ?_
  refine And.intro i3 ?_
  refine call_pr (d := 20) hM (fun o2 J2 E2 hq => ?_)
  obtain ⟨rfl, hr2⟩ := hQ o2 J2 E2 hq
  refine And.intro (fun _ => hgo J2 E2 hr2) (fun z => absurd (lg_self x) z)
theorem law_19 (g : Gp) (I : MI) (D : MD) {k L : Nat} {xs : Nat → Int32} {K : Kt} (hk : k + 7 ≤ L) (hL : L ≤ 3584) (hr : Rel I D) (hgo : ∀ J E, Rel J E → K 2192 (lvL k) [] J E) : wp SHc (some (L, xs)) RtL (CaD g SHc 21) LVL K 1005 oL_971 none (lvL k) [] I D := by
  have i1 : inn (nI k + 1) L := inL (j := 1) hk hL (by decide)
  have i2 : inn (nI k + 2) L := inL (j := 2) hk hL (by decide)
  refine And.intro i1 ?_
  refine And.intro i2 ?_
  obtain ⟨P, hX, hP⟩ := p_water g I D hr (xs (nI k + 1).toNatClampNeg) (xs (nI k + 2).toNatClampNeg)
  refine call_pr (d := 20) hX (fun o J E hp => ?_)
  obtain ⟨ht, Q, hM, hQ⟩ := hP o J E hp
  obtain ⟨x, rfl⟩ := okO_t ht
  refine And.intro i1 ?_
  refine And.intro i2 ?_
  refine call_pr (d := 20) hM (fun o2 J2 E2 hq => ?_)
  obtain ⟨rfl, hr2⟩ := hQ o2 J2 E2 hq
  refine And.intro (fun _ => hgo J2 E2 hr2) (fun z => absurd (lg_self x) z)
theorem law_20 (g : Gp) (I : MI) (D : MD) {k L : Nat} {xs : Nat → Int32} {K : Kt} (hk : k + 7 ≤ L) (hL : L ≤ 3584) (hr : Rel I D) (hgo : ∀ J E, Rel J E → K 2192 (lvL k) [] J E) : wp SHc (some (L, xs)) RtL (CaD g SHc 21) LVL K 1048 oL_1005 none (lvL k) [] I D := by
  have i1 : inn (nI k + 1) L := inL (j := 1) hk hL (by decide)
  have i2 : inn (nI k + 2) L := inL (j := 2) hk hL (by decide)
  have i3 : inn (nI k + 3) L := inL (j := 3) hk hL (by decide)
  refine And.intro i1 ?_
  refine And.intro i2 ?_
  refine And.intro i3 ?_
  obtain ⟨P, hX, hP⟩ := p_waters g I D hr (xs (nI k + 1).toNatClampNeg) (xs (nI k + 2).toNatClampNeg) (xs (nI k + 3).toNatClampNeg)
  refine call_pr (d := 20) hX (fun o J E hp => ?_)
  obtain ⟨ht, Q, hM, hQ⟩ := hP o J E hp
  obtain ⟨x, rfl⟩ := okO_f ht
  refine And.intro i1 ?_
  refine And.intro i2 ?_
  refine And.intro i3 ?_
  refine call_pr (d := 20) hM (fun o2 J2 E2 hq => ?_)
  obtain ⟨rfl, hr2⟩ := hQ o2 J2 E2 hq
  refine And.intro (fun _ => hgo J2 E2 hr2) (fun z => absurd rfl z)
theorem law_21 (g : Gp) (I : MI) (D : MD) {k L : Nat} {xs : Nat → Int32} {K : Kt} (hk : k + 7 ≤ L) (hL : L ≤ 3584) (hr : Rel I D) (hgo : ∀ J E, Rel J E → K 2192 (lvL k) [] J E) : wp SHc (some (L, xs)) RtL (CaD g SHc 21) LVL K 1091 oL_1048 none (lvL k) [] I D := by
  have i1 : inn (nI k + 1) L := inL (j := 1) hk hL (by decide)
  have i2 : inn (nI k + 2) L := inL (j := 2) hk hL (by decide)
  have i3 : inn (nI k + 3) L := inL (j := 3) hk hL (by decide)
  refine And.intro i1 ?_
  refine And.intro i2 ?_
  refine And.intro i3 ?_
  obtain ⟨P, hX, hP⟩ := p_found g I D hr (xs (nI k + 1).toNatClampNeg) (xs (nI k + 2).toNatClampNeg) (xs (nI k + 3).toNatClampNeg)
  refine call_pr (d := 20) hX (fun o J E hp => ?_)
  obtain ⟨ht, Q, hM, hQ⟩ := hP o J E hp
  obtain ⟨x, rfl⟩ := okO_f ht
  refine And.intro i1 ?_
  refine And.intro i2 ?_
  refine And.intro i3 ?_
  refine call_pr (d := 20) hM (fun o2 J2 E2 hq => ?_)
  obtain ⟨rfl, hr2⟩ := hQ o2 J2 E2 hq
  refine And.intro (fun _ => hgo J2 E2 hr2) (fun z => absurd rfl z)
theorem law_22 (g : Gp) (I : MI) (D : MD) {k L : Nat} {xs : Nat → Int32} {K : Kt} (hk : k + 7 ≤ L) (hL : L ≤ 3584) (hr : Rel I D) (hgo : ∀ J E, Rel J E → K 2192 (lvL k) [] J E) : wp SHc (some (L, xs)) RtL (CaD g SHc 21) LVL K 1125 oL_1091 none (lvL k) [] I D := by
  have i1 : inn (nI k + 1) L := inL (j := 1) hk hL (by decide)
  have i2 : inn (nI k + 2) L := inL (j := 2) hk hL (by decide)
  refine And.intro i1 ?_
  refine And.intro i2 ?_
  obtain ⟨P, hX, hP⟩ := p_range g I D hr (xs (nI k + 1).toNatClampNeg) (xs (nI k + 2).toNatClampNeg)
  refine call_pr (d := 20) hX (fun o J E hp => ?_)
  obtain ⟨ht, Q, hM, hQ⟩ := hP o J E hp
  obtain ⟨x, rfl⟩ := okO_t ht
  refine And.intro i1 ?_
  refine And.intro i2 ?_
  refine call_pr (d := 20) hM (fun o2 J2 E2 hq => ?_)
  obtain ⟨rfl, hr2⟩ := hQ o2 J2 E2 hq
  refine And.intro (fun _ => hgo J2 E2 hr2) (fun z => absurd (lg_self x) z)
theorem law_23 (g : Gp) (I : MI) (D : MD) {k L : Nat} {xs : Nat → Int32} {K : Kt} (hk : k + 7 ≤ L) (hL : L ≤ 3584) (hr : Rel I D) (hgo : ∀ J E, Rel J E → K 2192 (lvL k) [] J E) : wp SHc (some (L, xs)) RtL (CaD g SHc 21) LVL K 1174 oL_1125 none (lvL k) [] I D := by
  have i1 : inn (nI k + 1) L := inL (j := 1) hk hL (by decide)
  have i2 : inn (nI k + 2) L := inL (j := 2) hk hL (by decide)
  refine And.intro i1 ?_
  refine And.intro i2 ?_
  refine And.intro (fun bz => ?_) (fun bz => ?_)
  · obtain ⟨P, hX, hP⟩ := p_spring g I D hr (xs (nI k + 1).toNatClampNeg) (0)
    refine call_pr (d := 20) hX (fun o J E hp => ?_)
    obtain ⟨ht, Q, hM, hQ⟩ := hP o J E hp
    obtain ⟨x, rfl⟩ := okO_f ht
    refine And.intro i1 ?_
    refine And.intro i2 ?_
    refine And.intro (fun _ => ?_) (fun z => absurd bz z)
    refine call_pr (d := 20) hM (fun o2 J2 E2 hq => ?_)
    obtain ⟨rfl, hr2⟩ := hQ o2 J2 E2 hq
    refine And.intro (fun _ => hgo J2 E2 hr2) (fun z => absurd rfl z)
  · obtain ⟨P, hX, hP⟩ := p_spring g I D hr (xs (nI k + 1).toNatClampNeg) (1)
    refine call_pr (d := 20) hX (fun o J E hp => ?_)
    obtain ⟨ht, Q, hM, hQ⟩ := hP o J E hp
    obtain ⟨x, rfl⟩ := okO_f ht
    refine And.intro i1 ?_
    refine And.intro i2 ?_
    refine And.intro (fun z => absurd z bz) (fun _ => ?_)
    refine call_pr (d := 20) hM (fun o2 J2 E2 hq => ?_)
    obtain ⟨rfl, hr2⟩ := hQ o2 J2 E2 hq
    refine And.intro (fun _ => hgo J2 E2 hr2) (fun z => absurd rfl z)
theorem law_25 (g : Gp) (I : MI) (D : MD) {k L : Nat} {xs : Nat → Int32} {K : Kt} (hk : k + 7 ≤ L) (hL : L ≤ 3584) (hr : Rel I D) (hgo : ∀ J E, Rel J E → K 2192 (lvL k) [] J E) : wp SHc (some (L, xs)) RtL (CaD g SHc 21) LVL K 1250 oL_1217 none (lvL k) [] I D := by
  have i1 : inn (nI k + 1) L := inL (j := 1) hk hL (by decide)
  have i2 : inn (nI k + 2) L := inL (j := 2) hk hL (by decide)
  refine And.intro i1 ?_
  refine And.intro i2 ?_
  obtain ⟨P, hX, hP⟩ := p_stream g I D hr (xs (nI k + 1).toNatClampNeg) (xs (nI k + 2).toNatClampNeg)
  refine call_pr (d := 20) hX (fun o J E hp => ?_)
  obtain ⟨ht, Q, hM, hQ⟩ := hP o J E hp
  obtain ⟨x, rfl⟩ := okO_f ht
  refine And.intro i1 ?_
  refine And.intro i2 ?_
  refine call_pr (d := 20) hM (fun o2 J2 E2 hq => ?_)
  obtain ⟨rfl, hr2⟩ := hQ o2 J2 E2 hq
  refine And.intro (fun _ => hgo J2 E2 hr2) (fun z => absurd rfl z)
theorem law_26 (g : Gp) (I : MI) (D : MD) {k L : Nat} {xs : Nat → Int32} {K : Kt} (hk : k + 7 ≤ L) (hL : L ≤ 3584) (hr : Rel I D) (hgo : ∀ J E, Rel J E → K 2192 (lvL k) [] J E) : wp SHc (some (L, xs)) RtL (CaD g SHc 21) LVL K 1325 oL_1250 none (lvL k) [] I D := by
  have i1 : inn (nI k + 1) L := inL (j := 1) hk hL (by decide)
  have i2 : inn (nI k + 2) L := inL (j := 2) hk hL (by decide)
  have i3 : inn (nI k + 3) L := inL (j := 3) hk hL (by decide)
  have i4 : inn (nI k + 4) L := inL (j := 4) hk hL (by decide)
  have i5 : inn (nI k + 5) L := inL (j := 5) hk hL (by decide)
  have i6 : inn (nI k + 6) L := inL (j := 6) hk hL (by decide)
  refine And.intro i1 ?_
  refine And.intro i2 ?_
  refine And.intro i3 ?_
  refine And.intro i4 ?_
  refine And.intro i5 ?_
  refine And.intro i6 ?_
  obtain ⟨P, hX, hP⟩ := p_ship g I D hr (xs (nI k + 1).toNatClampNeg) (xs (nI k + 2).toNatClampNeg) (xs (nI k + 3).toNatClampNeg) (xs (nI k + 4).toNatClampNeg) (xs (nI k + 5).toNatClampNeg) (xs (nI k + 6).toNatClampNeg)
  refine call_pr (d := 20) hX (fun o J E hp => ?_)
  obtain ⟨ht, Q, hM, hQ⟩ := hP o J E hp
  obtain ⟨x, rfl⟩ := okO_f ht
  refine And.intro i1 ?_
  refine And.intro i2 ?_
  refine And.intro i3 ?_
  refine And.intro i4 ?_
  refine And.intro i5 ?_
  refine And.intro i6 ?_
  refine call_pr (d := 20) hM (fun o2 J2 E2 hq => ?_)
  obtain ⟨rfl, hr2⟩ := hQ o2 J2 E2 hq
  refine And.intro (fun _ => hgo J2 E2 hr2) (fun z => absurd rfl z)
