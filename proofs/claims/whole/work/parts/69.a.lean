/-! a minute's trial -/
theorem legA_c {bd no : Bool} {rs st u nd mk P : Int32} {wt : UInt64} {str : Nat → Int32} (hP : P < 0 → P = -7 ∨ P = -2) : legA bd rs st u no wt nd mk P str = 0 ∨ legA bd rs st u no wt nd mk P str = 1 ∨ legA bd rs st u no wt nd mk P str = -1 ∨ legA bd rs st u no wt nd mk P str = -7 ∨ legA bd rs st u no wt nd mk P str = -2 := by
  unfold legA
  split
  · exact Or.inl rfl
  · split
    · exact Or.inr (Or.inr (Or.inl rfl))
    · split
      · exact Or.inl rfl
      · split
        · exact Or.inr (Or.inl rfl)
        · split
          next h => exact Or.inr (Or.inr (Or.inr (hP h)))
          next =>
            split
            · exact Or.inr (Or.inl rfl)
            · exact Or.inl rfl
theorem spl_n {mo hi : Nat → Int32} {s : Nat} {t : Int32} {c : Nat} (hs : s < 12) (h : spl mo hi s t c < 0) : spl mo hi s t c = -7 ∨ spl mo hi s t c = -2 := by
  rcases spl_c (mo := mo) (hi := hi) (t := t) (c := c) hs with w | w | ⟨j, hj, w⟩
  · exact Or.inl w
  · exact Or.inr w
  · rw [w] at h
    exact absurd h (nI_pos (by omega))
theorem askF_c (kd dr pc xx p1 p2 : Nat → Int32) (w : Int32) : ∀ (e : Nat) (s : Int32), (askF kd dr pc xx p1 p2 w e s).1 = 0 ∨ (askF kd dr pc xx p1 p2 w e s).1 = 1 ∨ (askF kd dr pc xx p1 p2 w e s).1 = 4
  | 0, s => Or.inr (Or.inl rfl)
  | e + 1, s => by
    unfold askF
    split
    · exact Or.inr (Or.inl rfl)
    · split
      · split
        · exact askF_c kd dr pc xx p1 p2 w e _
        · exact askF_c kd dr pc xx p1 p2 w e _
      · unfold ownA
        split
        · exact Or.inl rfl
        · split
          · exact Or.inl rfl
          · split
            · show paceF _ _ = 0 ∨ paceF _ _ = 1 ∨ paceF _ _ = 4
              unfold paceF
              split
              · exact Or.inr (Or.inr rfl)
              · exact Or.inl rfl
            · split
              · exact Or.inl rfl
              · exact Or.inl rfl
def tmF (co lg : Nat → Int32) : Nat → Nat → Int32
  | 0, _ => 1
  | r + 1, i => if co i = -3 then -3 else if lg i = 1 then tmF co lg r (i + 1) else anX (lg i)
def miF (rN rP rD : AskR) (T : Int32) : Int32 := if ¬ rN.1 = 0 then -10 - rN.1 else if ¬ rP.1 = 0 then -10 - rP.1 else if ¬ rD.1 = 0 then -10 - rD.1 else if rP.2.1 < 1 then -3 else T
def miB (rN rP rD : AskR) : List Int32 := rN.2.2 ++ (if rN.1 = 0 then rP.2.2 ++ (if rP.1 = 0 then rD.2.2 else []) else [])
def tellA (a : Int32) (I : MI) : MI := if a < -10 then tellX (-10 - a) I else I
theorem tellA_f {f : Int32} (I : MI) (h : f = 0 ∨ f = 1 ∨ f = 4) (h0 : ¬ f = 0) : tellA (-10 - f) I = tellX f I := by
  rcases h with h | h | h
  · exact absurd h h0
  · rw [h]; rfl
  · rw [h]; rfl
theorem stX_a {r : Int32} (I : MI) (h : r = 0 ∨ r = 1 ∨ r = -1 ∨ r = -7 ∨ r = -2) : stX r I = tellA (anX r) I := by
  rcases h with h | h | h | h | h <;> rw [h] <;> rfl
theorem cm_c {mi a pc : Nat} {p : Int32} (hp : p = nI pc) (h1 : 1 ≤ pc) (hpc : pc < 2 ^ 31) (hmi : mi < 43200) (ha : a ≤ 50000) : 60 * nI mi + nI a * 100 / p = nI (60 * mi + a * 100 / pc) ∧ 60 * mi + a * 100 / pc < 2 ^ 31 ∧ (cmF (60 * nI mi) (nI a) p = -3 ∧ ¬ 60 * mi + a * 100 / pc < 2592000 ∨ cmF (60 * nI mi) (nI a) p = nI (60 * mi + a * 100 / pc) ∧ 60 * mi + a * 100 / pc < 2592000) := by
  have e1 : (60 : Int32) * nI mi = nI (60 * mi) := pk_mul 60 mi
  have e2 : nI a * 100 = nI (a * 100) := pk_mul a 100
  have e3 : nI (a * 100) / nI pc = nI (a * 100 / pc) := pk_div (by omega) (by omega) hpc
  have e4 : a * 100 / pc ≤ a * 100 := Nat.div_le_self _ _
  have e5 : 60 * nI mi + nI a * 100 / p = nI (60 * mi + a * 100 / pc) := by rw [hp, e2, e3, e1, nI_add]
  refine ⟨e5, by omega, ?_⟩
  have hn1 : ¬ p < 1 := by
    rw [hp]
    exact nI_nlt (b := 1) h1 hpc
  unfold cmF
  rw [if_neg hn1, e5]
  by_cases q : 60 * mi + a * 100 / pc < 2592000
  · have : nI (60 * mi + a * 100 / pc) < (2592000 : Int32) := show _ < nI 2592000 from nI_lt q (by decide)
    rw [if_pos this]
    exact Or.inr ⟨rfl, q⟩
  · have : ¬ nI (60 * mi + a * 100 / pc) < (2592000 : Int32) := fun z => q ((nI_ltI (by omega) (by decide)).mp (show _ < nI 2592000 from z))
    rw [if_neg this]
    exact Or.inl ⟨rfl, q⟩
section S69
variable (g : Gp) (d : Nat) (I : MI) (D : MD)
def RX (I : MI) : Prop := ∀ r, r < 6 → ∃ l, l ≤ 4 ∧ I 50 r = nI l ∧ ∀ i, i < l → ∃ q s a, q < 16 ∧ I 51 (4 * r + i) = nI q ∧ s < 12 ∧ I 30 q = nI s ∧ a ≤ 50000 ∧ I 52 (4 * r + i) = nI a
def WX (I : MI) : Prop := ∀ s, s < 12 → ∃ c, c ≤ 40 ∧ I 36 s = nI c ∧ ∀ j, j < c → ∃ a, a < 2592000 ∧ I 37 (40 * s + j) = nI a
def lgXf (I : MI) (n m tk fd b : Nat) (bd : Bool) (nd : Int32) (p : Nat) (u w : Int32) : Int32 := legA bd (I 8 6) (I 8 7) u (decide (bfX I (I 51 p) u w b = -1 ∨ sfX I (I 30 (I 51 p).toNatClampNeg) u w n = -1)) (wtX I n m tk fd b (I 51 p).toNatClampNeg u w) nd (I 53 p) (spl (mwX I (I 30 (I 51 p).toNatClampNeg).toNatClampNeg) (hwX I (I 30 (I 51 p).toNatClampNeg).toNatClampNeg) (I 30 (I 51 p).toNatClampNeg).toNatClampNeg u (I 36 (I 30 (I 51 p).toNatClampNeg).toNatClampNeg).toNatClampNeg) (I 41)
abbrev coX (I : MI) (r : Nat) (mi pc : Int32) (i : Nat) : Int32 := cmF (60 * mi) (I 52 (4 * r + i)) pc
abbrev ltX (I : MI) (n m tk fd b r : Nat) (bd : Bool) (nd mi pc w : Int32) (i : Nat) : Int32 := lgXf I n m tk fd b bd nd (4 * r + i) (coX I r mi pc i) w
def minX (I : MI) (n m tk fd b r : Nat) (s mi w : Int32) : Int32 := miF (askX I 0 5 s) (askX I 2 5 s) (askX I 4 5 s) (tmF (coX I r mi (askX I 2 5 s).2.1) (ltX I n m tk fd b r (decide ((askX I 4 5 s).2.1 = 1)) (askX I 0 5 s).2.1 mi (askX I 2 5 s).2.1 w) (I 50 r).toNatClampNeg 0)
def bdX (I : MI) (s : Int32) : List Int32 := miB (askX I 0 5 s) (askX I 2 5 s) (askX I 4 5 s)
def mnP (I : MI) (D : MD) (T : Tr) (a : Int32) (bs : List Int32) (r : Nat) (mi pc : Int32) : Po := fun o J E => ∃ sc' sd', o = some (.int a) ∧ J = ovX (tellA a (trX I (begsT T bs))) sc' ∧ E = ovD D sd' ∧ (a = 1 → ∀ i, i < (I 50 r).toNatClampNeg → sc' 54 i = coX I r mi pc i)
theorem lgXf_c (n m tk fd b : Nat) (bd : Bool) (nd : Int32) (p : Nat) (u w : Int32) (h : ∃ s, s < 12 ∧ I 30 (I 51 p).toNatClampNeg = nI s) : lgXf I n m tk fd b bd nd p u w = 0 ∨ lgXf I n m tk fd b bd nd p u w = 1 ∨ lgXf I n m tk fd b bd nd p u w = -1 ∨ lgXf I n m tk fd b bd nd p u w = -7 ∨ lgXf I n m tk fd b bd nd p u w = -2 := by
  obtain ⟨s, hs, he⟩ := h
  unfold lgXf
  rw [he, nI_clamp (show s < 2 ^ 31 by omega)]
  exact legA_c (spl_n hs)
set_option maxHeartbeats 2000000 in
theorem c_X_tryMinute {n m tk fd b h ms : Nat} (hB : KX I n m tk fd b h) (hR : RX I) (hW : WX I) (hms : ms ≤ 40) (hP : shOk (I 42) (I 46) (I 47) ms) (s : Int32) (hs : ix s (nI ms) = true) (r mi : Nat) (hr : r < 6) (hmi : mi < 43200) (w : Int32) (T : Tr) (hT : T.1 ≤ 100) (sc : MI) (sd : MD) : Con g SHc (d + 14) 117 [.ref 8, .int s, .int (nI r), .int (nI mi), .int w] (ovX (trX I T) sc) (ovD D sd) (mnP I D T (minX I n m tk fd b r s (nI mi) w) (bdX I s) r (nI mi) (askX I 2 5 s).2.1) := by
  refine Con.mk (LV := v_Voyages_tryMinute) k_Voyages_tryMinute (Nat.le_of_ble_eq_true rfl) (fun K hK => ?_)
  obtain ⟨l, hl, hle, hlg⟩ := hR r hr
  have hlc : (I 50 r).toNatClampNeg = l := by rw [hle]; exact nI_clamp (by omega)
  have hrc : (nI r).toNatClampNeg = r := nI_clamp (by omega)
  have hr6 : inn (nI r) 6 := inn_nI hr (by decide)
  have f0 : ∀ w, (askX I w 5 s).1 = 0 ∨ (askX I w 5 s).1 = 1 ∨ (askX I w 5 s).1 = 4 := fun w => askF_c _ _ _ _ _ _ w 5 s
  have hA : ∀ w, wi w 0 4 = true → ∀ T' sc', T'.1 ≤ 100 → Con g SHc (d + 13) 79 [.ref 6, .int s, .int w, .int 0] (ovX (trX I T') sc') (ovD D sd) (asP I (ovD D sd) T' sc' (askX I w 5 s)) := fun w hw T' sc' hT' => c_X_askFor g d I (ovD D sd) ms hms hP w hw 5 0 rfl s T' sc' (ix_sh hs) hT' (Or.inl rfl)
  have aN := hA 0 (by decide)
  have aP := hA 2 (by decide)
  have aD := hA 4 (by decide)
  have fN := f0 0
  have fP := f0 2
  have fD := f0 4
  unfold minX bdX at hK
  rw [hlc] at hK
  generalize askX I 0 5 s = rN at hK aN fN
  generalize askX I 2 5 s = rP at hK aP fP
  generalize askX I 4 5 s = rD at hK aD fD
  obtain ⟨Tm, hTm⟩ : ∃ Tm, Tm = tmF (coX I r (nI mi) rP.2.1) (ltX I n m tk fd b r (decide (rD.2.1 = 1)) rN.2.1 (nI mi) rP.2.1 w) l 0 := ⟨_, rfl⟩
  rw [← hTm] at hK
  -- the legs
  have loop : rN.1 = 0 → rP.1 = 0 → rD.1 = 0 → ¬ rP.2.1 < 1 → ∀ k i sc sd, i + k = l → tmF (coX I r (nI mi) rP.2.1) (ltX I n m tk fd b r (decide (rD.2.1 = 1)) rN.2.1 (nI mi) rP.2.1 w) k i = Tm → sc 8 8 = rN.2.1 → sc 8 9 = rP.2.1 → sc 8 10 = bI (decide (rD.2.1 = 1)) → (∀ q, q < i → sc 54 q = coX I r (nI mi) rP.2.1 q) → K 110 [(0, .ref 8), (2, .int (nI r)), (3, .int (nI mi)), (4, .int w), (5, .int (nI i))] [] (ovX (trX I (begsT T (miB rN rP rD))) sc) (ovD D sd) := by
    intro hN0 hP0 hD0 hp1 k
    have hm1 : miF rN rP rD Tm = Tm := by
      unfold miF
      rw [if_neg (fun z => z hN0), if_neg (fun z => z hP0), if_neg (fun z => z hD0), if_neg hp1]
    rw [hm1] at hK
    obtain ⟨pc, hpc31, hpce⟩ := nI_of (x := rP.2.1) (fun z => hp1 (by rw [i32_lt] at z ⊢; rw [show ((0 : Int32)).toInt = 0 by decide] at z; rw [show ((1 : Int32)).toInt = 1 by decide]; omega))
    have hpc1 : 1 ≤ pc := by
      rcases Nat.eq_zero_or_pos pc with z | z
      · rw [hpce, z] at hp1
        exact absurd (by decide) hp1
      · exact z
    induction k with
    | zero =>
      intro i sc sd hi htm hn hp hb hc
      have htm : (1 : Int32) = Tm := htm
      refine hK (110, 199, o_Voyages_tryMinute_1) (List.mem_of_getElem? (i := 1) rfl) _ _ _ _ ?_
      refine And.intro (hr6) ?_
      refine And.intro (fun c => ?_) (fun c => ?_)
      · rw [← htm]
        exact ⟨sc, sd, rfl, rfl, rfl, fun _ q hq => hc q (by rw [hlc] at hq; omega)⟩
      · have hle' : ovX (trX I (begsT T (miB rN rP rD))) sc 50 (nI r).toNatClampNeg = nI l := by rw [hrc]; exact hle
        rw [hle'] at c
        exact absurd (nI_le (by omega) (by omega)) c
    | succ k ih =>
      intro i sc sd hi htm hn hp hb hc
      have hic : (nI i).toNatClampNeg = i := nI_clamp (by omega)
      obtain ⟨q, s', a, hq, hqe, hs', hse, ha, hae⟩ := hlg i (by omega)
      obtain ⟨c', hc', hce, hmo⟩ := hW s' hs'
      obtain ⟨k1, k2, k3⟩ := cm_c hpce hpc1 hpc31 hmi ha
      have e4 : nI r * 4 + nI i = nI (4 * r + i) := by rw [show (4 : Int32) = nI 4 from rfl, pk_mul, nI_add, Nat.mul_comm r 4]
      have hC : Con g SHc (d + 13) 114 [.ref 7, .int (nI r * 4 + nI i), .int (60 * nI mi), .int (ovX (trX I (begsT T (miB rN rP rD))) sc 8 9)] (ovX (trX I (begsT T (miB rN rP rD))) sc) (ovD D sd) (EqP (some (.int (coX I r (nI mi) rP.2.1 i))) (ovX (trX I (begsT T (miB rN rP rD))) sc) (ovD D sd)) := by
        rw [e4, show ovX (trX I (begsT T (miB rN rP rD))) sc 8 9 = rP.2.1 from hp]
        exact c_X_comingAt g (d + 13) _ _ (4 * r + i) (by omega) _ _
      have nxt : tmF (coX I r (nI mi) rP.2.1) (ltX I n m tk fd b r (decide (rD.2.1 = 1)) rN.2.1 (nI mi) rP.2.1 w) (k + 1) i = if coX I r (nI mi) rP.2.1 i = -3 then -3 else if ltX I n m tk fd b r (decide (rD.2.1 = 1)) rN.2.1 (nI mi) rP.2.1 w i = 1 then tmF (coX I r (nI mi) rP.2.1) (ltX I n m tk fd b r (decide (rD.2.1 = 1)) rN.2.1 (nI mi) rP.2.1 w) k (i + 1) else anX (ltX I n m tk fd b r (decide (rD.2.1 = 1)) rN.2.1 (nI mi) rP.2.1 w i) := rfl
      rw [nxt] at htm
      have hce' : coX I r (nI mi) rP.2.1 i = -3 ∨ ∃ tt, tt < 2592000 ∧ coX I r (nI mi) rP.2.1 i = nI tt := by
        show cmF (60 * nI mi) (I 52 (4 * r + i)) rP.2.1 = -3 ∨ ∃ tt, tt < 2592000 ∧ cmF (60 * nI mi) (I 52 (4 * r + i)) rP.2.1 = nI tt
        rw [hae]
        rcases k3 with ⟨z1, z2⟩ | ⟨z1, z2⟩
        · exact Or.inl z1
        · exact Or.inr ⟨_, z2, z1⟩
      have hLd : ∀ tt, coX I r (nI mi) rP.2.1 i = nI tt → ltX I n m tk fd b r (decide (rD.2.1 = 1)) rN.2.1 (nI mi) rP.2.1 w i = legA (decide (rD.2.1 = 1)) (I 8 6) (I 8 7) (nI tt) (decide (bfX I (nI q) (nI tt) w b = -1 ∨ sfX I (nI s') (nI tt) w n = -1)) (wtX I n m tk fd b q (nI tt) w) rN.2.1 (I 53 (4 * r + i)) (spl (mwX I s') (hwX I s') s' (nI tt) c') (I 41) := by
        intro tt htt
        show lgXf I n m tk fd b (decide (rD.2.1 = 1)) rN.2.1 (4 * r + i) (coX I r (nI mi) rP.2.1 i) w = _
        rw [htt]
        unfold lgXf
        rw [hqe, nI_clamp (show q < 2 ^ 31 by omega), hse, nI_clamp (show s' < 2 ^ 31 by omega), hce, nI_clamp (show c' < 2 ^ 31 by omega)]
      have hLc : ltX I n m tk fd b r (decide (rD.2.1 = 1)) rN.2.1 (nI mi) rP.2.1 w i = 0 ∨ _ := lgXf_c I n m tk fd b (decide (rD.2.1 = 1)) rN.2.1 (4 * r + i) (coX I r (nI mi) rP.2.1 i) w ⟨s', hs', by rw [hqe, nI_clamp (show q < 2 ^ 31 by omega)]; exact hse⟩
      obtain ⟨U, hU⟩ : ∃ U, U = coX I r (nI mi) rP.2.1 i := ⟨_, rfl⟩
      rw [← hU] at hC htm hce' hLd
      obtain ⟨L, hLe⟩ : ∃ L, L = ltX I n m tk fd b r (decide (rD.2.1 = 1)) rN.2.1 (nI mi) rP.2.1 w i := ⟨_, rfl⟩
      rw [← hLe] at htm hLd
      have hLc : L = 0 ∨ L = 1 ∨ L = -1 ∨ L = -7 ∨ L = -2 := by rw [hLe]; exact hLc
      clear hLe nxt
      refine hK (110, 199, o_Voyages_tryMinute_1) (List.mem_of_getElem? (i := 1) rfl) _ _ _ _ ?_
      refine And.intro (hr6) ?_
      refine And.intro (fun c => ?_) (fun c => ?_)
      · have hle' : ovX (trX I (begsT T (miB rN rP rD))) sc 50 (nI r).toNatClampNeg = nI l := by rw [hrc]; exact hle
        rw [hle'] at c
        exact absurd c (nI_ge (by omega) (by omega))
      refine call_eq (hC) ?_
      refine And.intro (fun c1 => ?_) (fun c1 => ?_)
      · rw [if_neg c1] at htm
        obtain ⟨tt, htt, hUe⟩ := hce'.resolve_left c1
        refine And.intro (inn_nI (by omega) (by decide)) ?_
        rw [hic, ov_up2 _ _ _ _ _ (by rfl)]
        have hLeg : Con g SHc (d + 13) 118 [.ref 8, .int (nI r * 4 + nI i), .int U, .int w] (ovX (trX I (begsT T (miB rN rP rD))) (up2 sc 54 i U)) (ovD D sd) (tlP (trX I (begsT T (miB rN rP rD))) D (up2 sc 54 i U) L) := by
          rw [e4, hLd tt hUe, hUe]
          have h9 := c_X_tryLeg g (d + 9) (trX I (begsT T (miB rN rP rD))) D hB (4 * r + i) q s' c' tt (by omega) hqe hq hse hs' hc' hce hmo htt w (up2 sc 54 i (nI tt)) sd
          rw [show up2 sc 54 i (nI tt) 8 10 = bI (decide (rD.2.1 = 1)) from hb, show up2 sc 54 i (nI tt) 8 8 = rN.2.1 from hn, show (!decide (bI (decide (rD.2.1 = 1)) = 0)) = decide (rD.2.1 = 1) by cases decide (rD.2.1 = 1) <;> rfl] at h9
          exact h9
        refine call_of hLeg ?_
        rintro o J E ⟨sc2, sd2, hk2, rfl, rfl, rfl⟩
        rw [stX_a _ hLc]
        refine And.intro (fun c2 => ?_) (fun c2 => ?_)
        · have hL1 : L = 1 := by
            rcases hLc with z | z | z | z | z
            · rw [z] at c2; exact absurd c2 (by decide)
            · exact z
            · rw [z] at c2; exact absurd c2 (by decide)
            · rw [z] at c2; exact absurd c2 (by decide)
            · rw [z] at c2; exact absurd c2 (by decide)
          rw [hL1]
          rw [if_pos hL1] at htm
          have go := ih (i + 1) sc2 sd2 (by omega) htm (hk2.1.trans hn) (hk2.2.1.trans hp) (hk2.2.2.1.trans hb) (fun q' hq' => by
            rw [hk2.2.2.2.1, up2_at2]
            by_cases hqi : q' = i
            · subst hqi
              rw [if_pos ⟨rfl, rfl⟩]
              exact hU
            · rw [if_neg (fun z => hqi z.2)]
              exact hc q' (by omega))
          rw [nI_succ] at go
          exact go
        · have hL1 : ¬ L = 1 := fun z => c2 (by rw [z]; rfl)
          rw [if_neg hL1] at htm
          rw [← htm]
          exact ⟨sc2, sd2, rfl, rfl, rfl, fun z => absurd z c2⟩
      · rw [if_pos c1] at htm
        rw [← htm]
        exact ⟨sc, sd, rfl, rfl, rfl, fun z => absurd z (by decide)⟩
  refine hK (0, 110, o_Voyages_tryMinute_0) (List.mem_of_getElem? (i := 0) rfl) _ _ _ _ ?_
  have hT1 : (begsT T rN.2.2).1 ≤ 100 := begsT_le _ hT
  have hT2 : (begsT (begsT T rN.2.2) rP.2.2).1 ≤ 100 := begsT_le _ hT1
  refine call_of (aN T sc hT) ?_
  rintro o J E ⟨rfl, rfl, vN, rfl, hvN⟩
  have er : ∀ (T' : Tr) (sc' : MI) (f : Int32), sc' 6 10 = f → ovX (trX I T') sc' 6 10 = f := fun T' sc' f h => h
  refine And.intro (fun c1 => ?_) (fun c1 => ?_)
  · have c1 : ¬ rN.1 = 0 := c1
    rw [ov_up2 _ _ _ _ _ (by rfl)]
    refine And.intro (fun _ => ?_) (fun z => absurd z c1)
    refine And.intro (fun z => absurd z c1) (fun _ => ?_)
    refine call_eq (c_X_tell g (d + 13) _ (ovD D sd) _) ?_
    rw [er _ _ rN.1 rfl, tellX_ov]
    have e1 : miF rN rP rD Tm = -10 - rN.1 := by
      unfold miF
      rw [if_pos c1]
    have e2 : miB rN rP rD = rN.2.2 := by
      unfold miB
      rw [if_neg c1, List.append_nil]
    rw [e1, e2]
    refine ⟨_, sd, rfl, by rw [tellA_f _ fN c1], rfl, fun z => ?_⟩
    rcases fN with q | q | q
    · exact absurd q c1
    · rw [q] at z; exact absurd z (by decide)
    · rw [q] at z; exact absurd z (by decide)
  have c1 : rN.1 = 0 := c1
  rw [ov_up2 _ _ _ _ _ (by rfl), hvN c1]
  refine call_of (aP (begsT T rN.2.2) _ hT1) ?_
  rintro o J E ⟨rfl, rfl, vP, rfl, hvP⟩
  refine And.intro (fun c2 => ?_) (fun c2 => ?_)
  · have c2 : ¬ rP.1 = 0 := c2
    rw [ov_up2 _ _ _ _ _ (by rfl)]
    refine And.intro (fun z => absurd z c2) (fun _ => ?_)
    refine call_eq (c_X_tell g (d + 13) _ (ovD D sd) _) ?_
    rw [er _ _ rP.1 rfl, tellX_ov]
    have e1 : miF rN rP rD Tm = -10 - rP.1 := by
      unfold miF
      rw [if_neg (fun z => z c1), if_pos c2]
    have e2 : miB rN rP rD = rN.2.2 ++ rP.2.2 := by
      unfold miB
      rw [if_pos c1, if_neg c2, List.append_nil]
    rw [e1, e2]
    refine ⟨_, sd, rfl, by rw [begsT_app, tellA_f _ fP c2], rfl, fun z => ?_⟩
    rcases fP with q | q | q
    · exact absurd q c2
    · rw [q] at z; exact absurd z (by decide)
    · rw [q] at z; exact absurd z (by decide)
  have c2 : rP.1 = 0 := c2
  rw [ov_up2 _ _ _ _ _ (by rfl), hvP c2]
  refine call_of (aD (begsT (begsT T rN.2.2) rP.2.2) _ hT2) ?_
  rintro o J E ⟨rfl, rfl, vD, rfl, hvD⟩
  have e2 : miB rN rP rD = rN.2.2 ++ (rP.2.2 ++ rD.2.2) := by
    unfold miB
    rw [if_pos c1, if_pos c2]
  have eT : begsT (begsT (begsT T rN.2.2) rP.2.2) rD.2.2 = begsT T (miB rN rP rD) := by rw [e2, begsT_app, begsT_app]
  have rest : ∀ y : Int32, (rD.1 = 0 → y = bI (decide (rD.2.1 = 1))) → wp SHc none (retP (mnP I D T (miF rN rP rD Tm) (miB rN rP rD) r (nI mi) rP.2.1)) (CaD g SHc (d + 14)) v_Voyages_tryMinute K 110 o_Voyages_tryMinute_0 (some 71) (lv_args 0 [.ref 8, .int s, .int (nI r), .int (nI mi), .int w]) [] (ovX (trX I (begsT T (miB rN rP rD))) (up2 (up2 (up2 (up2 (up2 (up2 sc 6 10 rN.1) 8 8 rN.2.1) 6 10 rP.1) 8 9 rP.2.1) 6 10 rD.1) 8 10 y)) (ovD D sd) := by
    intro y hy
    refine And.intro (fun c3 => ?_) (fun c3 => ?_)
    · have c3 : rD.1 = 0 := c3
      refine And.intro (fun c4 => ?_) (fun c4 => ?_)
      · have c4 : 1 ≤ rP.2.1 := c4
        exact loop c1 c2 c3 (i32_nlt.mpr c4) l 0 _ sd (by omega) hTm.symm rfl rfl (by rw [up2_at]; exact hy c3) (fun q hq => absurd hq (by omega))
      · have c4 : ¬ 1 ≤ rP.2.1 := c4
        have e1 : miF rN rP rD Tm = -3 := by
          unfold miF
          rw [if_neg (fun z => z c1), if_neg (fun z => z c2), if_neg (fun z => z c3), if_pos (i32_nle.mp c4)]
        rw [e1]
        exact ⟨_, sd, rfl, rfl, rfl, fun z => absurd z (by decide)⟩
    · have c3 : ¬ rD.1 = 0 := c3
      refine call_eq (c_X_tell g (d + 13) _ (ovD D sd) _) ?_
      rw [er _ _ rD.1 rfl, tellX_ov]
      have e1 : miF rN rP rD Tm = -10 - rD.1 := by
        unfold miF
        rw [if_neg (fun z => z c1), if_neg (fun z => z c2), if_pos c3]
      rw [e1]
      refine ⟨_, sd, rfl, by rw [tellA_f _ fD c3], rfl, fun z => ?_⟩
      rcases fD with q | q | q
      · exact absurd q c3
      · rw [q] at z; exact absurd z (by decide)
      · rw [q] at z; exact absurd z (by decide)
  rw [eT]
  refine And.intro (fun c5 => ?_) (fun c5 => ?_)
  · refine And.intro (Or.inl rfl) ?_
    have go := rest 0 (fun z => by rw [hvD z] at c5; rw [decide_eq_false c5]; rfl)
    rw [← ov_up2 _ (up2 (up2 (up2 (up2 (up2 sc 6 10 rN.1) 8 8 rN.2.1) 6 10 rP.1) 8 9 rP.2.1) 6 10 rD.1) 8 10 0 (by rfl)] at go
    exact go
  · refine And.intro (Or.inr rfl) ?_
    have go := rest 1 (fun z => by rw [hvD z] at c5; rw [decide_eq_true c5]; rfl)
    rw [← ov_up2 _ (up2 (up2 (up2 (up2 (up2 sc 6 10 rN.1) 8 8 rN.2.1) 6 10 rP.1) 8 9 rP.2.1) 6 10 rD.1) 8 10 1 (by rfl)] at go
    exact go
end S69
