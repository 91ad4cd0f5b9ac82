/-! the law: further calls -/
theorem law_27 (g : Gp) (I : MI) (D : MD) {k L : Nat} {xs : Nat → Int32} {K : Kt} (hk : k + 7 ≤ L) (hL : L ≤ 3584) (hr : Rel I D) (hgo : ∀ J E, Rel J E → K 2192 (lvL k) [] J E) : wp SHc (some (L, xs)) RtL (CaD g SHc 21) LVL K 1358 oL_1325 none (lvL k) [] I D := by
  have i1 : inn (nI k + 1) L := inL (j := 1) hk hL (by decide)
  have i2 : inn (nI k + 2) L := inL (j := 2) hk hL (by decide)
  refine And.intro i1 ?_
  refine And.intro i2 ?_
  obtain ⟨P, hX, hP⟩ := p_ask g I D hr (xs (nI k + 1).toNatClampNeg) (xs (nI k + 2).toNatClampNeg)
  refine call_pr (d := 20) hX (fun o J E hp => ?_)
  obtain ⟨ht, Q, hM, hQ⟩ := hP o J E hp
  obtain ⟨x, rfl⟩ := okO_f ht
  refine And.intro i1 ?_
  refine And.intro i2 ?_
  refine call_pr (d := 20) hM (fun o2 J2 E2 hq => ?_)
  obtain ⟨rfl, hr2⟩ := hQ o2 J2 E2 hq
  refine And.intro (fun _ => hgo J2 E2 hr2) (fun z => absurd rfl z)
theorem law_28 (g : Gp) (I : MI) (D : MD) {k L : Nat} {xs : Nat → Int32} {K : Kt} (hk : k + 7 ≤ L) (hL : L ≤ 3584) (hr : Rel I D) (hgo : ∀ J E, Rel J E → K 2192 (lvL k) [] J E) : wp SHc (some (L, xs)) RtL (CaD g SHc 21) LVL K 1371 oL_1358 none (lvL k) [] I D := by
  obtain ⟨P, hX, hP⟩ := p_asked g I D hr 
  refine call_pr (d := 20) hX (fun o J E hp => ?_)
  obtain ⟨ht, Q, hM, hQ⟩ := hP o J E hp
  obtain ⟨x, rfl⟩ := okO_f ht
  refine call_pr (d := 20) hM (fun o2 J2 E2 hq => ?_)
  obtain ⟨rfl, hr2⟩ := hQ o2 J2 E2 hq
  refine And.intro (fun _ => hgo J2 E2 hr2) (fun z => absurd rfl z)
theorem law_29 (g : Gp) (I : MI) (D : MD) {k L : Nat} {xs : Nat → Int32} {K : Kt} (hk : k + 7 ≤ L) (hL : L ≤ 3584) (hr : Rel I D) (hgo : ∀ J E, Rel J E → K 2192 (lvL k) [] J E) : wp SHc (some (L, xs)) RtL (CaD g SHc 21) LVL K 1394 oL_1371 none (lvL k) [] I D := by
  have i1 : inn (nI k + 1) L := inL (j := 1) hk hL (by decide)
  refine And.intro i1 ?_
  obtain ⟨P, hX, hP⟩ := p_trace g I D hr (xs (nI k + 1).toNatClampNeg)
  refine call_pr (d := 20) hX (fun o J E hp => ?_)
  obtain ⟨ht, Q, hM, hQ⟩ := hP o J E hp
  obtain ⟨x, rfl⟩ := okO_f ht
  refine And.intro i1 ?_
  refine call_pr (d := 20) hM (fun o2 J2 E2 hq => ?_)
  obtain ⟨rfl, hr2⟩ := hQ o2 J2 E2 hq
  refine And.intro (fun _ => hgo J2 E2 hr2) (fun z => absurd rfl z)
theorem law_30 (g : Gp) (I : MI) (D : MD) {k L : Nat} {xs : Nat → Int32} {K : Kt} (hk : k + 7 ≤ L) (hL : L ≤ 3584) (hr : Rel I D) (hgo : ∀ J E, Rel J E → K 2192 (lvL k) [] J E) : wp SHc (some (L, xs)) RtL (CaD g SHc 21) LVL K 1427 oL_1394 none (lvL k) [] I D := by
  have i1 : inn (nI k + 1) L := inL (j := 1) hk hL (by decide)
  have i2 : inn (nI k + 2) L := inL (j := 2) hk hL (by decide)
  refine And.intro i1 ?_
  refine And.intro i2 ?_
  obtain ⟨P, hX, hP⟩ := p_as g I D hr (xs (nI k + 1).toNatClampNeg) (xs (nI k + 2).toNatClampNeg)
  refine call_pr (d := 20) hX (fun o J E hp => ?_)
  obtain ⟨ht, Q, hM, hQ⟩ := hP o J E hp
  obtain ⟨x, rfl⟩ := okO_f ht
  refine And.intro i1 ?_
  refine And.intro i2 ?_
  refine call_pr (d := 20) hM (fun o2 J2 E2 hq => ?_)
  obtain ⟨rfl, hr2⟩ := hQ o2 J2 E2 hq
  refine And.intro (fun _ => hgo J2 E2 hr2) (fun z => absurd rfl z)
theorem law_31 (g : Gp) (I : MI) (D : MD) {k L : Nat} {xs : Nat → Int32} {K : Kt} (hk : k + 7 ≤ L) (hL : L ≤ 3584) (hr : Rel I D) (hgo : ∀ J E, Rel J E → K 2192 (lvL k) [] J E) : wp SHc (some (L, xs)) RtL (CaD g SHc 21) LVL K 1470 oL_1427 none (lvL k) [] I D := by
  have i1 : inn (nI k + 1) L := inL (j := 1) hk hL (by decide)
  have i2 : inn (nI k + 2) L := inL (j := 2) hk hL (by decide)
  have i3 : inn (nI k + 3) L := inL (j := 3) hk hL (by decide)
  refine And.intro i1 ?_
  refine And.intro i2 ?_
  refine And.intro i3 ?_
  obtain ⟨P, hX, hP⟩ := p_fleet g I D hr (xs (nI k + 1).toNatClampNeg) (xs (nI k + 2).toNatClampNeg) (xs (nI k + 3).toNatClampNeg)
  refine call_pr (d := 20) hX (fun o J E hp => ?_)
  obtain ⟨ht, Q, hM, hQ⟩ := hP o J E hp
  obtain ⟨x, rfl⟩ := okO_f ht
  refine And.intro i1 ?_
  refine And.intro i2 ?_
  refine And.intro i3 ?_
  refine call_pr (d := 20) hM (fun o2 J2 E2 hq => ?_)
  obtain ⟨rfl, hr2⟩ := hQ o2 J2 E2 hq
  refine And.intro (fun _ => hgo J2 E2 hr2) (fun z => absurd rfl z)
theorem law_32 (g : Gp) (I : MI) (D : MD) {k L : Nat} {xs : Nat → Int32} {K : Kt} (hk : k + 7 ≤ L) (hL : L ≤ 3584) (hr : Rel I D) (hgo : ∀ J E, Rel J E → K 2192 (lvL k) [] J E) : wp SHc (some (L, xs)) RtL (CaD g SHc 21) LVL K 1513 oL_1470 none (lvL k) [] I D := by
  have i1 : inn (nI k + 1) L := inL (j := 1) hk hL (by decide)
  have i2 : inn (nI k + 2) L := inL (j := 2) hk hL (by decide)
  have i3 : inn (nI k + 3) L := inL (j := 3) hk hL (by decide)
  refine And.intro i1 ?_
  refine And.intro i2 ?_
  refine And.intro i3 ?_
  obtain ⟨P, hX, hP⟩ := p_join g I D hr (xs (nI k + 1).toNatClampNeg) (xs (nI k + 2).toNatClampNeg) (xs (nI k + 3).toNatClampNeg)
  refine call_pr (d := 20) hX (fun o J E hp => ?_)
  obtain ⟨ht, Q, hM, hQ⟩ := hP o J E hp
  obtain ⟨x, rfl⟩ := okO_f ht
  refine And.intro i1 ?_
  refine And.intro i2 ?_
  refine And.intro i3 ?_
  refine call_pr (d := 20) hM (fun o2 J2 E2 hq => ?_)
  obtain ⟨rfl, hr2⟩ := hQ o2 J2 E2 hq
  refine And.intro (fun _ => hgo J2 E2 hr2) (fun z => absurd rfl z)
theorem law_33 (g : Gp) (I : MI) (D : MD) {k L : Nat} {xs : Nat → Int32} {K : Kt} (hk : k + 7 ≤ L) (hL : L ≤ 3584) (hr : Rel I D) (hgo : ∀ J E, Rel J E → K 2192 (lvL k) [] J E) : wp SHc (some (L, xs)) RtL (CaD g SHc 21) LVL K 1546 oL_1513 none (lvL k) [] I D := by
  have i1 : inn (nI k + 1) L := inL (j := 1) hk hL (by decide)
  have i2 : inn (nI k + 2) L := inL (j := 2) hk hL (by decide)
  refine And.intro i1 ?_
  refine And.intro i2 ?_
  obtain ⟨P, hX, hP⟩ := p_member g I D hr (xs (nI k + 1).toNatClampNeg) (xs (nI k + 2).toNatClampNeg)
  refine call_pr (d := 20) hX (fun o J E hp => ?_)
  obtain ⟨ht, Q, hM, hQ⟩ := hP o J E hp
  obtain ⟨x, rfl⟩ := okO_f ht
  refine And.intro i1 ?_
  refine And.intro i2 ?_
  refine call_pr (d := 20) hM (fun o2 J2 E2 hq => ?_)
  obtain ⟨rfl, hr2⟩ := hQ o2 J2 E2 hq
  refine And.intro (fun _ => hgo J2 E2 hr2) (fun z => absurd rfl z)
theorem law_34 (g : Gp) (I : MI) (D : MD) {k L : Nat} {xs : Nat → Int32} {K : Kt} (hk : k + 7 ≤ L) (hL : L ≤ 3584) (hr : Rel I D) (hgo : ∀ J E, Rel J E → K 2192 (lvL k) [] J E) : wp SHc (some (L, xs)) RtL (CaD g SHc 21) LVL K 1609 oL_1546 none (lvL k) [] I D := by
  have i1 : inn (nI k + 1) L := inL (j := 1) hk hL (by decide)
  have i2 : inn (nI k + 2) L := inL (j := 2) hk hL (by decide)
  have i3 : inn (nI k + 3) L := inL (j := 3) hk hL (by decide)
  have i4 : inn (nI k + 4) L := inL (j := 4) hk hL (by decide)
  have i5 : inn (nI k + 5) L := inL (j := 5) hk hL (by decide)
  refine And.intro i1 ?_
  refine And.intro i2 ?_
  refine And.intro i3 ?_
  refine And.intro i4 ?_
  refine And.intro i5 ?_
  obtain ⟨P, hX, hP⟩ := p_move g I D hr (xs (nI k + 1).toNatClampNeg) (xs (nI k + 2).toNatClampNeg) (xs (nI k + 3).toNatClampNeg) (xs (nI k + 4).toNatClampNeg) (xs (nI k + 5).toNatClampNeg)
  refine call_pr (d := 20) hX (fun o J E hp => ?_)
  obtain ⟨ht, Q, hM, hQ⟩ := hP o J E hp
  obtain ⟨x, rfl⟩ := okO_f ht
  refine And.intro i1 ?_
  refine And.intro i2 ?_
  refine And.intro i3 ?_
  refine And.intro i4 ?_
  refine And.intro i5 ?_
  refine call_pr (d := 20) hM (fun o2 J2 E2 hq => ?_)
  obtain ⟨rfl, hr2⟩ := hQ o2 J2 E2 hq
  refine And.intro (fun _ => hgo J2 E2 hr2) (fun z => absurd rfl z)
theorem law_35 (g : Gp) (I : MI) (D : MD) {k L : Nat} {xs : Nat → Int32} {K : Kt} (hk : k + 7 ≤ L) (hL : L ≤ 3584) (hr : Rel I D) (hgo : ∀ J E, Rel J E → K 2192 (lvL k) [] J E) : wp SHc (some (L, xs)) RtL (CaD g SHc 21) LVL K 1642 oL_1609 none (lvL k) [] I D := by
  have i1 : inn (nI k + 1) L := inL (j := 1) hk hL (by decide)
  have i2 : inn (nI k + 2) L := inL (j := 2) hk hL (by decide)
  refine And.intro i1 ?_
  refine And.intro i2 ?_
  obtain ⟨P, hX, hP⟩ := p_shared g I D hr (xs (nI k + 1).toNatClampNeg) (xs (nI k + 2).toNatClampNeg)
  refine call_pr (d := 20) hX (fun o J E hp => ?_)
  obtain ⟨ht, Q, hM, hQ⟩ := hP o J E hp
  obtain ⟨x, rfl⟩ := okO_f ht
  refine And.intro i1 ?_
  refine And.intro i2 ?_
  refine call_pr (d := 20) hM (fun o2 J2 E2 hq => ?_)
  obtain ⟨rfl, hr2⟩ := hQ o2 J2 E2 hq
  refine And.intro (fun _ => hgo J2 E2 hr2) (fun z => absurd rfl z)
theorem law_36 (g : Gp) (I : MI) (D : MD) {k L : Nat} {xs : Nat → Int32} {K : Kt} (hk : k + 7 ≤ L) (hL : L ≤ 3584) (hr : Rel I D) (hgo : ∀ J E, Rel J E → K 2192 (lvL k) [] J E) : wp SHc (some (L, xs)) RtL (CaD g SHc 21) LVL K 1695 oL_1642 none (lvL k) [] I D := by
  have i1 : inn (nI k + 1) L := inL (j := 1) hk hL (by decide)
  have i2 : inn (nI k + 2) L := inL (j := 2) hk hL (by decide)
  have i3 : inn (nI k + 3) L := inL (j := 3) hk hL (by decide)
  have i4 : inn (nI k + 4) L := inL (j := 4) hk hL (by decide)
  refine And.intro i1 ?_
  refine And.intro i2 ?_
  refine And.intro i3 ?_
  refine And.intro i4 ?_
  obtain ⟨P, hX, hP⟩ := p_leg g I D hr (xs (nI k + 1).toNatClampNeg) (xs (nI k + 2).toNatClampNeg) (xs (nI k + 3).toNatClampNeg) (xs (nI k + 4).toNatClampNeg)
  refine call_pr (d := 20) hX (fun o J E hp => ?_)
  obtain ⟨ht, Q, hM, hQ⟩ := hP o J E hp
  obtain ⟨x, rfl⟩ := okO_f ht
  refine And.intro i1 ?_
  refine And.intro i2 ?_
  refine And.intro i3 ?_
  refine And.intro i4 ?_
  refine call_pr (d := 20) hM (fun o2 J2 E2 hq => ?_)
  obtain ⟨rfl, hr2⟩ := hQ o2 J2 E2 hq
  refine And.intro (fun _ => hgo J2 E2 hr2) (fun z => absurd rfl z)
theorem law_37 (g : Gp) (I : MI) (D : MD) {k L : Nat} {xs : Nat → Int32} {K : Kt} (hk : k + 7 ≤ L) (hL : L ≤ 3584) (hr : Rel I D) (hgo : ∀ J E, Rel J E → K 2192 (lvL k) [] J E) : wp SHc (some (L, xs)) RtL (CaD g SHc 21) LVL K 1718 oL_1695 none (lvL k) [] I D := by
  have i1 : inn (nI k + 1) L := inL (j := 1) hk hL (by decide)
  refine And.intro i1 ?_
  obtain ⟨P, hX, hP⟩ := p_clear g I D hr (xs (nI k + 1).toNatClampNeg)
  refine call_pr (d := 20) hX (fun o J E hp => ?_)
  obtain ⟨ht, Q, hM, hQ⟩ := hP o J E hp
  obtain ⟨x, rfl⟩ := okO_f ht
  refine And.intro i1 ?_
  refine call_pr (d := 20) hM (fun o2 J2 E2 hq => ?_)
  obtain ⟨rfl, hr2⟩ := hQ o2 J2 E2 hq
  refine And.intro (fun _ => hgo J2 E2 hr2) (fun z => absurd rfl z)
theorem law_38 (g : Gp) (I : MI) (D : MD) {k L : Nat} {xs : Nat → Int32} {K : Kt} (hk : k + 7 ≤ L) (hL : L ≤ 3584) (hr : Rel I D) (hgo : ∀ J E, Rel J E → K 2192 (lvL k) [] J E) : wp SHc (some (L, xs)) RtL (CaD g SHc 21) LVL K 1751 oL_1718 none (lvL k) [] I D := by
  have i1 : inn (nI k + 1) L := inL (j := 1) hk hL (by decide)
  have i2 : inn (nI k + 2) L := inL (j := 2) hk hL (by decide)
  refine And.intro i1 ?_
  refine And.intro i2 ?_
  obtain ⟨P, hX, hP⟩ := p_sun g I D hr (xs (nI k + 1).toNatClampNeg) (xs (nI k + 2).toNatClampNeg)
  refine call_pr (d := 20) hX (fun o J E hp => ?_)
  obtain ⟨ht, Q, hM, hQ⟩ := hP o J E hp
  obtain ⟨x, rfl⟩ := okO_f ht
  refine And.intro i1 ?_
  refine And.intro i2 ?_
  refine call_pr (d := 20) hM (fun o2 J2 E2 hq => ?_)
  obtain ⟨rfl, hr2⟩ := hQ o2 J2 E2 hq
  refine And.intro (fun _ => hgo J2 E2 hr2) (fun z => absurd rfl z)
theorem law_39 (g : Gp) (I : MI) (D : MD) {k L : Nat} {xs : Nat → Int32} {K : Kt} (hk : k + 7 ≤ L) (hL : L ≤ 3584) (hr : Rel I D) (hgo : ∀ J E, Rel J E → K 2192 (lvL k) [] J E) : wp SHc (some (L, xs)) RtL (CaD g SHc 21) LVL K 1804 oL_1751 none (lvL k) [] I D := by
  have i1 : inn (nI k + 1) L := inL (j := 1) hk hL (by decide)
  have i2 : inn (nI k + 2) L := inL (j := 2) hk hL (by decide)
  have i3 : inn (nI k + 3) L := inL (j := 3) hk hL (by decide)
  have i4 : inn (nI k + 4) L := inL (j := 4) hk hL (by decide)
  refine And.intro i1 ?_
  refine And.intro i2 ?_
  refine And.intro i3 ?_
  refine And.intro i4 ?_
  obtain ⟨P, hX, hP⟩ := p_comes g I D hr (xs (nI k + 1).toNatClampNeg) (xs (nI k + 2).toNatClampNeg) (xs (nI k + 3).toNatClampNeg) (xs (nI k + 4).toNatClampNeg)
  refine call_pr (d := 20) hX (fun o J E hp => ?_)
  obtain ⟨ht, Q, hM, hQ⟩ := hP o J E hp
  obtain ⟨x, rfl⟩ := okO_f ht
  refine And.intro i1 ?_
  refine And.intro i2 ?_
  refine And.intro i3 ?_
  refine And.intro i4 ?_
  refine call_pr (d := 20) hM (fun o2 J2 E2 hq => ?_)
  obtain ⟨rfl, hr2⟩ := hQ o2 J2 E2 hq
  refine And.intro (fun _ => hgo J2 E2 hr2) (fun z => absurd rfl z)
theorem law_40 (g : Gp) (I : MI) (D : MD) {k L : Nat} {xs : Nat → Int32} {K : Kt} (hk : k + 7 ≤ L) (hL : L ≤ 3584) (hr : Rel I D) (hgo : ∀ J E, Rel J E → K 2192 (lvL k) [] J E) : wp SHc (some (L, xs)) RtL (CaD g SHc 21) LVL K 1847 oL_1804 none (lvL k) [] I D := by
  have i1 : inn (nI k + 1) L := inL (j := 1) hk hL (by decide)
  have i2 : inn (nI k + 2) L := inL (j := 2) hk hL (by decide)
  have i3 : inn (nI k + 3) L := inL (j := 3) hk hL (by decide)
  refine And.intro i1 ?_
  refine And.intro i2 ?_
  refine And.intro i3 ?_
  obtain ⟨P, hX, hP⟩ := p_holds g I D hr (xs (nI k + 1).toNatClampNeg) (xs (nI k + 2).toNatClampNeg) (xs (nI k + 3).toNatClampNeg)
  refine call_pr (d := 20) hX (fun o J E hp => ?_)
  obtain ⟨ht, Q, hM, hQ⟩ := hP o J E hp
  obtain ⟨x, rfl⟩ := okO_f ht
  refine And.intro i1 ?_
  refine And.intro i2 ?_
  refine And.intro i3 ?_
  refine call_pr (d := 20) hM (fun o2 J2 E2 hq => ?_)
  obtain ⟨rfl, hr2⟩ := hQ o2 J2 E2 hq
  refine And.intro (fun _ => hgo J2 E2 hr2) (fun z => absurd rfl z)
theorem law_41 (g : Gp) (I : MI) (D : MD) {k L : Nat} {xs : Nat → Int32} {K : Kt} (hk : k + 7 ≤ L) (hL : L ≤ 3584) (hr : Rel I D) (hgo : ∀ J E, Rel J E → K 2192 (lvL k) [] J E) : wp SHc (some (L, xs)) RtL (CaD g SHc 21) LVL K 1900 oL_1847 none (lvL k) [] I D := by
  have i1 : inn (nI k + 1) L := inL (j := 1) hk hL (by decide)
  have i2 : inn (nI k + 2) L := inL (j := 2) hk hL (by decide)
  have i3 : inn (nI k + 3) L := inL (j := 3) hk hL (by decide)
  have i4 : inn (nI k + 4) L := inL (j := 4) hk hL (by decide)
  refine And.intro i1 ?_
  refine And.intro i2 ?_
  refine And.intro i3 ?_
  refine And.intro i4 ?_
  obtain ⟨P, hX, hP⟩ := p_windows g I D hr (xs (nI k + 1).toNatClampNeg) (xs (nI k + 2).toNatClampNeg) (xs (nI k + 3).toNatClampNeg) (xs (nI k + 4).toNatClampNeg)
  refine call_pr (d := 20) hX (fun o J E hp => ?_)
  obtain ⟨ht, Q, hM, hQ⟩ := hP o J E hp
  obtain ⟨x, rfl⟩ := okO_f ht
  refine And.intro i1 ?_
  refine And.intro i2 ?_
  refine And.intro i3 ?_
  refine And.intro i4 ?_
  refine call_pr (d := 20) hM (fun o2 J2 E2 hq => ?_)
  obtain ⟨rfl, hr2⟩ := hQ o2 J2 E2 hq
  refine And.intro (fun _ => hgo J2 E2 hr2) (fun z => absurd rfl z)
theorem law_42 (g : Gp) (I : MI) (D : MD) {k L : Nat} {xs : Nat → Int32} {K : Kt} (hk : k + 7 ≤ L) (hL : L ≤ 3584) (hr : Rel I D) (hgo : ∀ J E, Rel J E → K 2192 (lvL k) [] J E) : wp SHc (some (L, xs)) RtL (CaD g SHc 21) LVL K 1949 oL_1900 none (lvL k) [] I D := by
  have i1 : inn (nI k + 1) L := inL (j := 1) hk hL (by decide)
  have i2 : inn (nI k + 2) L := inL (j := 2) hk hL (by decide)
  refine And.intro i1 ?_
  refine And.intro i2 ?_
  refine And.intro (fun bz => ?_) (fun bz => ?_)
  · obtain ⟨P, hX, hP⟩ := p_window g I D hr (xs (nI k + 1).toNatClampNeg) (0)
    refine call_pr (d := 20) hX (fun o J E hp => ?_)
    obtain ⟨ht, Q, hM, hQ⟩ := hP o J E hp
    obtain ⟨x, rfl⟩ := okO_f ht
    refine And.intro i1 ?_
    refine And.intro i2 ?_
    refine And.intro (fun _ => ?_) (fun z => absurd bz z)
    refine call_pr (d := 20) hM (fun o2 J2 E2 hq => ?_)
    obtain ⟨rfl, hr2⟩ := hQ o2 J2 E2 hq
    refine And.intro (fun _ => hgo J2 E2 hr2) (fun z => absurd rfl z)
  · obtain ⟨P, hX, hP⟩ := p_window g I D hr (xs (nI k + 1).toNatClampNeg) (1)
    refine call_pr (d := 20) hX (fun o J E hp => ?_)
    obtain ⟨ht, Q, hM, hQ⟩ := hP o J E hp
    obtain ⟨x, rfl⟩ := okO_f ht
    refine And.intro i1 ?_
    refine And.intro i2 ?_
    refine And.intro (fun z => absurd z bz) (fun _ => ?_)
    refine call_pr (d := 20) hM (fun o2 J2 E2 hq => ?_)
    obtain ⟨rfl, hr2⟩ := hQ o2 J2 E2 hq
    refine And.intro (fun _ => hgo J2 E2 hr2) (fun z => absurd rfl z)
theorem law_43 (g : Gp) (I : MI) (D : MD) {k L : Nat} {xs : Nat → Int32} {K : Kt} (hk : k + 7 ≤ L) (hL : L ≤ 3584) (hr : Rel I D) (hgo : ∀ J E, Rel J E → K 2192 (lvL k) [] J E) : wp SHc (some (L, xs)) RtL (CaD g SHc 21) LVL K 1972 oL_1949 none (lvL k) [] I D := by
  have i1 : inn (nI k + 1) L := inL (j := 1) hk hL (by decide)
  refine And.intro i1 ?_
  obtain ⟨P, hX, hP⟩ := p_wrong g I D hr (xs (nI k + 1).toNatClampNeg)
  refine call_pr (d := 20) hX (fun o J E hp => ?_)
  obtain ⟨ht, Q, hM, hQ⟩ := hP o J E hp
  obtain ⟨x, rfl⟩ := okO_f ht
  refine And.intro i1 ?_
  refine call_pr (d := 20) hM (fun o2 J2 E2 hq => ?_)
  obtain ⟨rfl, hr2⟩ := hQ o2 J2 E2 hq
  refine And.intro (fun _ => hgo J2 E2 hr2) (fun z => absurd rfl z)
theorem law_44 (g : Gp) (I : MI) (D : MD) {k L : Nat} {xs : Nat → Int32} {K : Kt} (hk : k + 7 ≤ L) (hL : L ≤ 3584) (hr : Rel I D) (hgo : ∀ J E, Rel J E → K 2192 (lvL k) [] J E) : wp SHc (some (L, xs)) RtL (CaD g SHc 21) LVL K 2015 oL_1972 none (lvL k) [] I D := by
  have i1 : inn (nI k + 1) L := inL (j := 1) hk hL (by decide)
  have i2 : inn (nI k + 2) L := inL (j := 2) hk hL (by decide)
  have i3 : inn (nI k + 3) L := inL (j := 3) hk hL (by decide)
  refine And.intro i1 ?_
  refine And.intro i2 ?_
  refine And.intro i3 ?_
  obtain ⟨P, hX, hP⟩ := p_passage g I D hr (xs (nI k + 1).toNatClampNeg) (xs (nI k + 2).toNatClampNeg) (xs (nI k + 3).toNatClampNeg)
  refine call_pr (d := 20) hX (fun o J E hp => ?_)
  obtain ⟨ht, Q, hM, hQ⟩ := hP o J E hp
  obtain ⟨x, rfl⟩ := okO_f ht
  refine And.intro i1 ?_
  refine And.intro i2 ?_
  refine And.intro i3 ?_
  refine call_pr (d := 20) hM (fun o2 J2 E2 hq => ?_)
  obtain ⟨rfl, hr2⟩ := hQ o2 J2 E2 hq
  refine And.intro (fun _ => hgo J2 E2 hr2) (fun z => absurd rfl z)
theorem law_45 (g : Gp) (I : MI) (D : MD) {k L : Nat} {xs : Nat → Int32} {K : Kt} (hk : k + 7 ≤ L) (hL : L ≤ 3584) (hr : Rel I D) (hgo : ∀ J E, Rel J E → K 2192 (lvL k) [] J E) : wp SHc (some (L, xs)) RtL (CaD g SHc 21) LVL K 2028 oL_2015 none (lvL k) [] I D := by
  obtain ⟨P, hX, hP⟩ := p_plan g I D hr 
  refine call_pr (d := 20) hX (fun o J E hp => ?_)
  obtain ⟨ht, Q, hM, hQ⟩ := hP o J E hp
  obtain ⟨x, rfl⟩ := okO_f ht
  refine call_pr (d := 20) hM (fun o2 J2 E2 hq => ?_)
  obtain ⟨rfl, hr2⟩ := hQ o2 J2 E2 hq
  refine And.intro (fun _ => hgo J2 E2 hr2) (fun z => absurd rfl z)
theorem law_46 (g : Gp) (I : MI) (D : MD) {k L : Nat} {xs : Nat → Int32} {K : Kt} (hk : k + 7 ≤ L) (hL : L ≤ 3584) (hr : Rel I D) (hgo : ∀ J E, Rel J E → K 2192 (lvL k) [] J E) : wp SHc (some (L, xs)) RtL (CaD g SHc 21) LVL K 2061 oL_2028 none (lvL k) [] I D := by
  have i1 : inn (nI k + 1) L := inL (j := 1) hk hL (by decide)
  have i2 : inn (nI k + 2) L := inL (j := 2) hk hL (by decide)
  refine And.intro i1 ?_
  refine And.intro i2 ?_
  obtain ⟨P, hX, hP⟩ := p_planned g I D hr (xs (nI k + 1).toNatClampNeg) (xs (nI k + 2).toNatClampNeg)
  refine call_pr (d := 20) hX (fun o J E hp => ?_)
  obtain ⟨ht, Q, hM, hQ⟩ := hP o J E hp
  obtain ⟨x, rfl⟩ := okO_f ht
  refine And.intro i1 ?_
  refine And.intro i2 ?_
  refine call_pr (d := 20) hM (fun o2 J2 E2 hq => ?_)
  obtain ⟨rfl, hr2⟩ := hQ o2 J2 E2 hq
  refine And.intro (fun _ => hgo J2 E2 hr2) (fun z => absurd rfl z)
theorem law_47 (g : Gp) (I : MI) (D : MD) {k L : Nat} {xs : Nat → Int32} {K : Kt} (hk : k + 7 ≤ L) (hL : L ≤ 3584) (hr : Rel I D) (hgo : ∀ J E, Rel J E → K 2192 (lvL k) [] J E) : wp SHc (some (L, xs)) RtL (CaD g SHc 21) LVL K 2084 oL_2061 none (lvL k) [] I D := by
  have i1 : inn (nI k + 1) L := inL (j := 1) hk hL (by decide)
  refine And.intro i1 ?_
  obtain ⟨P, hX, hP⟩ := p_again g I D hr (xs (nI k + 1).toNatClampNeg)
  refine call_pr (d := 20) hX (fun o J E hp => ?_)
  obtain ⟨ht, Q, hM, hQ⟩ := hP o J E hp
  obtain ⟨x, rfl⟩ := okO_f ht
  refine And.intro i1 ?_
  refine call_pr (d := 20) hM (fun o2 J2 E2 hq => ?_)
  obtain ⟨rfl, hr2⟩ := hQ o2 J2 E2 hq
  refine And.intro (fun _ => hgo J2 E2 hr2) (fun z => absurd rfl z)
theorem law_48 (g : Gp) (I : MI) (D : MD) {k L : Nat} {xs : Nat → Int32} {K : Kt} (hk : k + 7 ≤ L) (hL : L ≤ 3584) (hr : Rel I D) (hgo : ∀ J E, Rel J E → K 2192 (lvL k) [] J E) : wp SHc (some (L, xs)) RtL (CaD g SHc 21) LVL K 2107 oL_2084 none (lvL k) [] I D := by
  have i1 : inn (nI k + 1) L := inL (j := 1) hk hL (by decide)
  refine And.intro i1 ?_
  obtain ⟨P, hX, hP⟩ := p_pass g I D hr (xs (nI k + 1).toNatClampNeg)
  refine call_pr (d := 20) hX (fun o J E hp => ?_)
  obtain ⟨ht, Q, hM, hQ⟩ := hP o J E hp
  obtain ⟨x, rfl⟩ := okO_f ht
  refine And.intro i1 ?_
  refine call_pr (d := 20) hM (fun o2 J2 E2 hq => ?_)
  obtain ⟨rfl, hr2⟩ := hQ o2 J2 E2 hq
  refine And.intro (fun _ => hgo J2 E2 hr2) (fun z => absurd rfl z)
theorem law_49 (g : Gp) (I : MI) (D : MD) {k L : Nat} {xs : Nat → Int32} {K : Kt} (hk : k + 7 ≤ L) (hL : L ≤ 3584) (hr : Rel I D) (hgo : ∀ J E, Rel J E → K 2192 (lvL k) [] J E) : wp SHc (some (L, xs)) RtL (CaD g SHc 21) LVL K 2120 oL_2107 none (lvL k) [] I D := by
  obtain ⟨P, hX, hP⟩ := p_tries g I D hr 
  refine call_pr (d := 20) hX (fun o J E hp => ?_)
  obtain ⟨ht, Q, hM, hQ⟩ := hP o J E hp
  obtain ⟨x, rfl⟩ := okO_f ht
  refine call_pr (d := 20) hM (fun o2 J2 E2 hq => ?_)
  obtain ⟨rfl, hr2⟩ := hQ o2 J2 E2 hq
  refine And.intro (fun _ => hgo J2 E2 hr2) (fun z => absurd rfl z)
theorem law_50 (g : Gp) (I : MI) (D : MD) {k L : Nat} {xs : Nat → Int32} {K : Kt} (hk : k + 7 ≤ L) (hL : L ≤ 3584) (hr : Rel I D) (hgo : ∀ J E, Rel J E → K 2192 (lvL k) [] J E) : wp SHc (some (L, xs)) RtL (CaD g SHc 21) LVL K 2143 oL_2120 none (lvL k) [] I D := by
  have i1 : inn (nI k + 1) L := inL (j := 1) hk hL (by decide)
  refine And.intro i1 ?_
  obtain ⟨P, hX, hP⟩ := p_held g I D hr (xs (nI k + 1).toNatClampNeg)
  refine call_pr (d := 20) hX (fun o J E hp => ?_)
  obtain ⟨ht, Q, hM, hQ⟩ := hP o J E hp
  obtain ⟨x, rfl⟩ := okO_f ht
  refine And.intro i1 ?_
  refine call_pr (d := 20) hM (fun o2 J2 E2 hq => ?_)
  obtain ⟨rfl, hr2⟩ := hQ o2 J2 E2 hq
  refine And.intro (fun _ => hgo J2 E2 hr2) (fun z => absurd rfl z)
theorem law_51 (g : Gp) (I : MI) (D : MD) {k L : Nat} {xs : Nat → Int32} {K : Kt} (hk : k + 7 ≤ L) (hL : L ≤ 3584) (hr : Rel I D) (hgo : ∀ J E, Rel J E → K 2192 (lvL k) [] J E) : wp SHc (some (L, xs)) RtL (CaD g SHc 21) LVL K 2166 oL_2143 none (lvL k) [] I D := by
  have i1 : inn (nI k + 1) L := inL (j := 1) hk hL (by decide)
  refine And.intro i1 ?_
  obtain ⟨P, hX, hP⟩ := p_count g I D hr (xs (nI k + 1).toNatClampNeg)
  refine call_pr (d := 20) hX (fun o J E hp => ?_)
  obtain ⟨ht, Q, hM, hQ⟩ := hP o J E hp
  obtain ⟨x, rfl⟩ := okO_f ht
  refine And.intro i1 ?_
  refine call_pr (d := 20) hM (fun o2 J2 E2 hq => ?_)
  obtain ⟨rfl, hr2⟩ := hQ o2 J2 E2 hq
  refine And.intro (fun _ => hgo J2 E2 hr2) (fun z => absurd rfl z)
theorem law_52 (g : Gp) (I : MI) (D : MD) {k L : Nat} {xs : Nat → Int32} {K : Kt} (hk : k + 7 ≤ L) (hL : L ≤ 3584) (hr : Rel I D) (hgo : ∀ J E, Rel J E → K 2192 (lvL k) [] J E) : wp SHc (some (L, xs)) RtL (CaD g SHc 21) LVL K 2179 oL_2166 none (lvL k) [] I D := by
  obtain ⟨P, hX, hP⟩ := p_finding g I D hr 
  refine call_pr (d := 20) hX (fun o J E hp => ?_)
  obtain ⟨ht, Q, hM, hQ⟩ := hP o J E hp
  obtain ⟨x, rfl⟩ := okO_f ht
  refine call_pr (d := 20) hM (fun o2 J2 E2 hq => ?_)
  obtain ⟨rfl, hr2⟩ := hQ o2 J2 E2 hq
  refine And.intro (fun _ => hgo J2 E2 hr2) (fun z => absurd rfl z)
theorem law_53 (g : Gp) (I : MI) (D : MD) {k L : Nat} {xs : Nat → Int32} {K : Kt} (hk : k + 7 ≤ L) (hL : L ≤ 3584) (hr : Rel I D) (hgo : ∀ J E, Rel J E → K 2192 (lvL k) [] J E) : wp SHc (some (L, xs)) RtL (CaD g SHc 21) LVL K 2192 oL_2179 none (lvL k) [] I D := by
  obtain ⟨P, hX, hP⟩ := p_digest g I D hr 
  refine call_pr (d := 20) hX (fun o J E hp => ?_)
  obtain ⟨ht, Q, hM, hQ⟩ := hP o J E hp
  obtain ⟨x, rfl⟩ := okO_f ht
  refine call_pr (d := 20) hM (fun o2 J2 E2 hq => ?_)
  obtain ⟨rfl, hr2⟩ := hQ o2 J2 E2 hq
  refine And.intro (fun _ => hgo J2 E2 hr2) (fun z => absurd rfl z)
