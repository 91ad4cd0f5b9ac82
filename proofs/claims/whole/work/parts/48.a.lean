/-! what a SURGE is: facts -/
theorem enF_mo (mo : Nat → Int32) (t : Int32) : ∀ r i k, i ≤ k → k < enF mo t r i → mo k ≤ t
  | 0, i, k, h1, h2 => absurd h2 (by unfold enF; omega)
  | r + 1, i, k, h1, h2 => by
    unfold enF at h2
    split at h2
    next c =>
      rcases Nat.eq_or_lt_of_le h1 with h3 | h3
      · rw [← h3]; exact c
      · exact enF_mo mo t r (i + 1) k h3 h2
    next => omega
theorem sgF_la (mo sh : Nat → Int32) (no : Int32 → Bool) (hg : Int32 → UInt64) (G0 : Nat → UInt64) (la0 : Int32) (st : Nat) : ∀ r, 0 < (sgF mo sh no hg G0 la0 st r).n → ∃ i, st ≤ i ∧ i < st + r ∧ (sgF mo sh no hg G0 la0 st r).la = mo i
  | 0, h => absurd h (Nat.lt_irrefl _)
  | r + 1, h => by
    unfold sgF at h ⊢
    split
    next c =>
      rw [if_pos c] at h
      obtain ⟨i, h1, h2, h3⟩ := sgF_la mo sh no hg G0 la0 st r h
      exact ⟨i, h1, by omega, h3⟩
    next c => exact ⟨st + r, by omega, by omega, rfl⟩
theorem sgF_cong {mo sh : Nat → Int32} {no : Int32 → Bool} {hg hg' : Int32 → UInt64} {G0 : Nat → UInt64} {la0 : Int32} {st : Nat} (h : ∀ i, no (mo i) = false → hg (mo i) = hg' (mo i)) : ∀ r, sgF mo sh no hg G0 la0 st r = sgF mo sh no hg' G0 la0 st r
  | 0 => rfl
  | r + 1 => by
    unfold sgF
    rw [sgF_cong h r]
    split
    · rfl
    next c =>
      rw [h _ (by
        cases h2 : no (mo (st + r)) with
        | false => rfl
        | true => exact absurd (by rw [h2, Bool.or_true]) c)]
def srC (mo sh : Nat → Int32) (no : Int32 → Bool) (hg : Int32 → UInt64) (z tk : Nat) (t : Int32) : Srg := sgF mo sh no hg (fun _ => 0) 0 (enF mo t z 0 - tk) (enF mo t z 0 - (enF mo t z 0 - tk))
def sv (fd : Nat) (t : Int32) (S : Srg) : UInt64 := sgV (nI fd) t S.la S.G S.n
theorem sr_c {mo sh : Nat → Int32} {no : Int32 → Bool} {hg : Int32 → UInt64} {z tk : Nat} {t : Int32} {G0 : Nat → UInt64} {la0 : Int32} {S : Srg} (hS : S = sgF mo sh no hg G0 la0 (enF mo t z 0 - tk) (enF mo t z 0 - (enF mo t z 0 - tk))) (fd : Nat) : S.n = (srC mo sh no hg z tk t).n ∧ S.k = (srC mo sh no hg z tk t).k ∧ (0 < S.n → sgV (nI fd) t S.la S.G S.n = sv fd t (srC mo sh no hg z tk t)) := by
  have h := sgF_eq mo sh no hg G0 (fun _ => 0) la0 0 (enF mo t z 0 - tk) (enF mo t z 0 - (enF mo t z 0 - tk))
  rw [← hS] at h
  obtain ⟨h1, h2, h3, h4⟩ := h
  refine ⟨h1, h2, fun h0 => ?_⟩
  unfold sv sgV
  rw [h3 h0, h4 ((S.n - 1) / 2) (by omega), h1]
  rfl
/-- of what a SURGE is made: not endless, not small, not the negative zero -/
def pel (x : UInt64) : Prop := fb 301 x ∧ grd x ∧ nz x
theorem sr_ok {mo sh : Nat → Int32} {no : Int32 → Bool} {hg : Int32 → UInt64} {z tk fd tt : Nat} {t : Int32} {G0 : Nat → UInt64} {la0 : Int32} {S : Srg} (hS : S = sgF mo sh no hg G0 la0 (enF mo t z 0 - tk) (enF mo t z 0 - (enF mo t z 0 - tk)))
    (hP : ∀ i, no (mo i) = false → pel (FP.dsub (FP.ddiv (FP.i2d (sh i)) 4636737291354636288) (hg (mo i)))) (hmo : ∀ i, i < z → ∃ a, a < 2 ^ 30 ∧ mo i = nI a) (ht : t = nI tt) (htt : tt < 2 ^ 30) (f0 : 1 ≤ fd) (f1 : fd ≤ 48) (h0 : 0 < S.n) :
    fb 301 (S.G ((S.n - 1) / 2)) ∧ fb 341 (sgV (nI fd) t S.la S.G S.n) ∧ nz (sgV (nI fd) t S.la S.G S.n) := by
  have hall := sgF_all mo sh no hg G0 la0 (enF mo t z 0 - tk) hP (enF mo t z 0 - (enF mo t z 0 - tk))
  have hl := sgF_la mo sh no hg G0 la0 (enF mo t z 0 - tk) (enF mo t z 0 - (enF mo t z 0 - tk))
  rw [← hS] at hall hl
  obtain ⟨i, h1, h2, h3⟩ := hl h0
  have he := enF_le mo t z 0
  obtain ⟨a, ha, hma⟩ := hmo i (by omega)
  have hle := enF_mo mo t z 0 i (by omega) (by omega)
  rw [hma, ht, nI_leI (by omega) (by omega)] at hle
  obtain ⟨e1, e2, e3⟩ := hall ((S.n - 1) / 2) (by omega)
  refine ⟨e1, ?_⟩
  unfold sgV
  rw [h3, hma, ht, nI_sub hle, show nI fd * 3600 = nI (fd * 3600) from pk_mul fd 3600]
  split
  · exact ⟨fb_c (by decide +kernel), by unfold nz; decide⟩
  next c =>
    rw [nI_leI (by omega) (by omega)] at c
    rw [nI_sub (by omega)]
    have hv : (nI (fd * 3600 - (tt - a))).toInt = ((fd * 3600 - (tt - a) : Nat) : Int) := nI_toInt (by omega)
    have := sg_nz (E := 301) (by omega) e1 e2 e3 (dint_i2d (nI (fd * 3600 - (tt - a)))) (fd_int f1) (by rw [hv]; omega) (by rw [hv]; omega) (by omega) (by omega) rfl
    exact ⟨fb_mono (by omega) this.2.1, this.1⟩
section S48
variable (g : Gp) (d : Nat) (I : MI) (D : MD)
theorem hgtX_grd (n : Nat) (hn : n ≤ 60) (hw : ∀ i, i < n → ∃ w, w ≤ 8 ∧ I 20 i = nI w) (s t k : Int32) (h : ¬ ifF (I 16) (I 17) (I 18) s t k n = -1) : grd (hgtX I n s t k) := by
  unfold hgtX
  rw [if_neg h]
  rcases ifF_in (I 16) (I 17) (I 18) s t k n with h1 | ⟨j, hj, h1⟩
  · exact absurd h1 h
  · obtain ⟨w, hw8, hwe⟩ := hw j hj
    rw [h1, nI_clamp (show j < 2 ^ 31 by omega), hwe, nI_clamp (show w < 2 ^ 31 by omega)]
    simp only [ang_eq]
    exact hG_grd _ _ _ w (by omega)
theorem pelX {n : Nat} (hn : n ≤ 60) (hw : ∀ i, i < n → ∃ w, w ≤ 8 ∧ I 20 i = nI w) (v s m w : Int32) (h : ¬ sfX I s m w n = -1) : pel (FP.dsub (FP.ddiv (FP.i2d v) 4636737291354636288) (hgtX I n s m w)) :=
  ⟨of_fb I hn hw v s m w h, grd_sub (E := 300) (by omega) (fb_mono (by omega) (mn_fb v)) (hgtX_fb I n hn hw s m w h) (lb_gr (by decide) (lb_100 v)) (hgtX_grd I n hn hw s m w h), nz_sub (fb_fin (mn_fb v)) (fb_fin (hgtX_fb I n hn hw s m w h)) (mn_nz v)⟩
/-- the class's world, as HEIGHTS, SURGES and DEPTHS need it -/
def KX (I : MI) (n m tk fd b h : Nat) : Prop := (n ≤ 60 ∧ I 2 9 = nI n ∧ ∀ i, i < n → ∃ w, w ≤ 8 ∧ I 20 i = nI w) ∧ (m ≤ 10 ∧ I 3 9 = nI m ∧ ∀ j, j < m → ∃ z f p, z ≤ 120 ∧ f ≤ 2591999 ∧ p ≤ 7200 ∧ I 26 j = nI z ∧ I 23 j = nI f ∧ I 24 j = nI p) ∧ (tk ≤ 9 ∧ I 3 10 = nI tk ∧ 1 ≤ fd ∧ fd ≤ 48 ∧ I 3 11 = nI fd) ∧ (b ≤ 76 ∧ I 4 8 + I 4 9 = nI b ∧ h ≤ 16 ∧ I 4 8 = nI h)
def KM (I : MI) (n m tk fd b h : Nat) : Prop := (n ≤ 60 ∧ I 12 8 = nI n ∧ ∀ i, i < n → ∃ w, w ≤ 8 ∧ I 79 i = nI w) ∧ (m ≤ 10 ∧ I 12 18 = nI m ∧ ∀ j, j < m → ∃ z f p, z ≤ 120 ∧ f ≤ 2591999 ∧ p ≤ 7200 ∧ I 87 j = nI z ∧ I 84 j = nI f ∧ I 85 j = nI p) ∧ (tk ≤ 9 ∧ I 12 26 = nI tk ∧ 1 ≤ fd ∧ fd ≤ 48 ∧ I 12 27 = nI fd) ∧ (b ≤ 76 ∧ I 12 37 = nI b ∧ h ≤ 16 ∧ I 12 33 = nI h)
def srX (I : MI) (n tk j : Nat) (t w : Int32) : Srg := srC (moX I j) (shX' I j) (noX I n j w) (hhX I n j w) (I 26 j).toNatClampNeg tk t
def srM (I : MI) (n tk j : Nat) (t : Int32) : Srg := srC (moM I j) (shM' I j) (noM I n j) (hhM I n j) (I 87 j).toNatClampNeg tk t
theorem mo_ok {f p i : Nat} (hf : f ≤ 2591999) (hp : p ≤ 7200) (hi : i ≤ 120) : f + i * p < 2 ^ 30 := by
  have : i * p ≤ 120 * 7200 := Nat.mul_le_mul hi hp
  omega
theorem wi_t {t : Int32} (h : wi t 0 2591999 = true) : ∃ tt, tt < 2592000 ∧ t = nI tt := by
  obtain ⟨j, hj, he⟩ := wi_nI (m := 2591999) (by decide) h
  exact ⟨j, by omega, he⟩
/-- any scratch before it: the SURGE that the class reckons -/
theorem sgX_ok {I : MI} {n m tk fd b h : Nat} (hB : KX I n m tk fd b h) {j z tt : Nat} (hj : j < m) (hz : I 26 j = nI z) (hz2 : z ≤ 120) {t : Int32} (w : Int32) (ht : t = nI tt) (htt : tt < 2592000) {D : MD} {la0 : Int32} {S : Srg} (hS : S = sgF (moX I j) (shX' I j) (noX I n j w) (hhX I n j w) (D 29) la0 (enX I j z t - tk) (enX I j z t - (enX I j z t - tk))) :
    S.n = (srX I n tk j t w).n ∧ S.k = (srX I n tk j t w).k ∧ S.n ≤ 9 ∧ (0 < S.n → sgV (nI fd) t S.la S.G S.n = sv fd t (srX I n tk j t w) ∧ fb 301 (S.G ((S.n - 1) / 2)) ∧ fb 341 (sv fd t (srX I n tk j t w)) ∧ nz (sv fd t (srX I n tk j t w))) := by
  obtain ⟨⟨k1, k2, k3⟩, ⟨k4, k5, k6⟩, ⟨k7, k8, k9, k10, k11⟩, -⟩ := hB
  have hc := sr_c hS fd
  have e0 : srX I n tk j t w = srC (moX I j) (shX' I j) (noX I n j w) (hhX I n j w) z tk t := by
    unfold srX
    rw [hz, nI_clamp (show z < 2 ^ 31 by omega)]
  rw [e0]
  have hn := sgF_n (moX I j) (shX' I j) (noX I n j w) (hhX I n j w) (D 29) la0 (enX I j z t - tk) (enX I j z t - (enX I j z t - tk))
  rw [← hS] at hn
  refine ⟨hc.1, hc.2.1, by omega, fun h0 => ?_⟩
  have hv := hc.2.2 h0
  rw [← hv]
  obtain ⟨z', f, p, q1, q2, q3, q4, q5, q6⟩ := k6 j hj
  have h := sr_ok hS (fd := fd) (tt := tt) (fun i hi => pelX I k1 k3 _ _ _ _ (of_decide_eq_false hi)) (fun i hi => ⟨f + i * p, mo_ok q2 q3 (by omega), by
    show I 23 j + nI i * I 24 j = _
    rw [q5, q6, pk_mul, nI_add]⟩) ht (by omega) k9 k10 h0
  exact ⟨rfl, h⟩
theorem ga_ov (sc : MI) (S : Srg) : gaI (ovX I sc) S = ovX I (gsX sc S.n S.k S.la) := by
  unfold gaI gsX
  rw [ov_up2 _ _ _ _ _ rfl, ov_up2 _ _ _ _ _ rfl, ov_up2 _ _ _ _ _ rfl]
theorem gd_ov (sd : MD) (S : Srg) : gaD (ovD D sd) S = ovD D (upc sd 29 S.G) := by
  unfold gaD
  rw [od_upc _ _ _ _ (fun _ => rfl)]
theorem tellX_ov (f : Int32) (sc : MI) : tellX f (ovX I sc) = ovX (tellX f I) sc := by
  unfold tellX
  rw [ov_n2 _ _ _ _ _ rfl, ov_n2 _ _ _ _ _ rfl]
  rfl
theorem tellM_ov (f : Int32) (sc : MI) : tellM f (ovX I sc) = ovX (tellM f I) sc := by
  unfold tellM
  rw [ov_n2 _ _ _ _ _ rfl, ov_n2 _ _ _ _ _ rfl]
  rfl
theorem KX_la {n m tk fd b h : Nat} (hB : KX I n m tk fd b h) (v : Int32) : KX (up2 I 0 13 v) n m tk fd b h := by
  unfold KX at *
  exact hB
/-- the class gathers -/
theorem c_X_gather' {n m tk fd b h : Nat} (hB : KX I n m tk fd b h) (j : Nat) (hj : j < m) (t w : Int32) (ht : wi t 0 2591999 = true) (sc : MI) (sd : MD) : ∃ S : Srg, S.n = (srX I n tk j t w).n ∧ S.k = (srX I n tk j t w).k ∧ S.n ≤ 9 ∧ (0 < S.n → sgV (nI fd) t S.la S.G S.n = sv fd t (srX I n tk j t w) ∧ fb 301 (S.G ((S.n - 1) / 2)) ∧ fb 341 (sv fd t (srX I n tk j t w)) ∧ nz (sv fd t (srX I n tk j t w))) ∧ Con g SHc (d + 2) 37 [.ref 3, .int (nI j), .int t, .int w] (ovX I sc) (ovD D sd) (EqP (some (.int (nI S.n))) (ovX I (gsX sc S.n S.k S.la)) (ovD D (upc sd 29 S.G))) := by
  obtain ⟨z, f, p, q1, q2, q3, q4, q5, q6⟩ := hB.2.1.2.2 j hj
  obtain ⟨tt, htt, hte⟩ := wi_t ht
  refine ⟨sgX (ovX I sc) (ovD D sd) n j z tk t w, ?_⟩
  obtain ⟨h1, h2, h3, h4⟩ := sgX_ok hB hj q4 q1 w hte htt (D := ovD D sd) (la0 := sc 3 14) (S := sgX (ovX I sc) (ovD D sd) n j z tk t w) rfl
  refine ⟨h1, h2, h3, h4, ?_⟩
  rw [← ga_ov, ← gd_ov]
  have hj10 : j < 10 := Nat.lt_of_lt_of_le hj hB.2.1.1
  exact c_X_gather g d (ovX I sc) (ovD D sd) n j z tk hB.1.1 hB.1.2.1 hB.1.2.2 hj10 q1 q4 hB.2.2.1.1 hB.2.2.1.2.1 t w
theorem c_X_fadedMiddle' {n m tk fd b h : Nat} (hB : KX I n m tk fd b h) (S : Srg) (h0 : 0 < S.n) (h9 : S.n ≤ 9) (hf : fb 301 (S.G ((S.n - 1) / 2))) (t : Int32) (sc : MI) (sd : MD) : Con g SHc d 39 [.ref 3, .int t] (ovX I (gsX sc S.n S.k S.la)) (ovD D (upc sd 29 S.G)) (EqP (some (.double (sgV (nI fd) t S.la S.G S.n))) (ovX I (gsX sc S.n S.k S.la)) (ovD D (upc sd 29 S.G))) :=
  c_X_fadedMiddle g d (ovX I (gsX sc S.n S.k S.la)) (ovD D (upc sd 29 S.G)) S.n fd h0 h9 rfl hB.2.2.1.2.2.1 hB.2.2.1.2.2.2.1 hB.2.2.1.2.2.2.2 hf t
/-- answer and contents of surge() -/
def suA (ok out : Bool) (C : Srg) (v : UInt64) : Int64 := match ok, out with
  | true, false => if C.n = 0 then 9221120237041090560 else v.toInt64
  | _, _ => 9221120237041090560
def suIX (ok out : Bool) (C : Srg) (I : MI) : MI := match ok, out with
  | true, false => if C.n = 0 then tellX 7 (up2 I 0 13 (nI C.k)) else up2 I 0 13 (nI C.k)
  | true, true => tellX 1 I
  | _, _ => I
def suIM (ok out : Bool) (C : Srg) (I : MI) : MI := match ok, out with
  | true, false => if C.n = 0 then tellM 7 (up2 I 12 29 (nI C.k)) else up2 I 12 29 (nI C.k)
  | true, true => tellM 1 I
  | _, _ => I
theorem c_X_surge' {n m tk fd b h : Nat} (hB : KX I n m tk fd b h) (ga t : Int32) (sc : MI) (sd : MD) : Con g SHc (d + 3) 36 [.ref 0, .int ga, .int t] (ovX I sc) (ovD D sd)
    (Sc (some (.long (suA (ix ga (nI m) && wi t 0 2591999 && !decide (3000 ≤ I 1 0)) (!decide (I 25 ga.toNatClampNeg = 0)) (srX I n tk ga.toNatClampNeg t (I 0 11)) (sv fd t (srX I n tk ga.toNatClampNeg t (I 0 11)))))) (suIX (ix ga (nI m) && wi t 0 2591999 && !decide (3000 ≤ I 1 0)) (!decide (I 25 ga.toNatClampNeg = 0)) (srX I n tk ga.toNatClampNeg t (I 0 11)) I) D) := by
  refine Con.mk (LV := v_X_surge) k_X_surge (Nat.le_of_ble_eq_true rfl) (fun K hK => ?_)
  refine hK (0, 109, o_X_surge_0) (List.mem_of_getElem? (i := 0) rfl) _ _ _ _ ?_
  refine call_eq (c_X_isGauge g (d + 2) (ovX I sc) (ovD D sd) ga) ?_
  have hix : (decide (0 ≤ ga) && decide (ga < ovX I sc 3 9)) = ix ga (nI m) := by rw [show ovX I sc 3 9 = nI m from hB.2.1.2.1]; rfl
  rw [hix]
  refine And.intro (fun c1 => ?_) (fun c1 => ?_)
  · rw [bI_0.mp c1]
    exact sc_of
  have h1 := bI_n0.mp c1
  rw [h1]
  obtain ⟨j, hj, rfl⟩ := ix_nI (Nat.lt_of_le_of_lt hB.2.1.1 (by decide)) h1
  have hj10 : j < 10 := Nat.lt_of_lt_of_le hj hB.2.1.1
  have hc : (nI j).toNatClampNeg = j := nI_clamp (by omega)
  refine call_eq (c_X_isMoment g (d + 2) (ovX I sc) (ovD D sd) t) ?_
  refine And.intro (fun c2 => ?_) (fun c2 => ?_)
  · rw [bI_0.mp c2]
    exact sc_of
  have h2 := bI_n0.mp c2
  rw [h2]
  refine call_eq (c_X_areSpent g (d + 2) (ovX I sc) (ovD D sd)) ?_
  refine And.intro (fun c3 => ?_) (fun c3 => ?_)
  · have h3 : ¬ 3000 ≤ I 1 0 := of_decide_eq_false (bI_0.mp c3)
    rw [decide_eq_false h3]
    refine And.intro (inn_nI hj10 (by decide)) ?_
    refine And.intro (fun c4 => ?_) (fun c4 => ?_)
    · have c4 : I 25 (nI j).toNatClampNeg = 0 := c4
      rw [decide_eq_true c4, hc]
      obtain ⟨S, s1, s2, s3, s4, hG⟩ := c_X_gather' g d I D hB j hj t (I 0 11) h2 sc sd
      refine call_eq (hG) ?_
      have e9 : ∀ v, up2 (ovX I (gsX sc S.n S.k S.la)) 0 13 v = ovX (up2 I 0 13 v) (gsX sc S.n S.k S.la) := fun v => ov_n2 _ _ _ _ _ rfl
      have e8 : ovX I (gsX sc S.n S.k S.la) 3 13 = nI S.k := rfl
      refine And.intro (fun c5 => ?_) (fun c5 => ?_)
      · rw [e8, e9]
        have h5 : ¬ S.n = 0 := fun h => c5 (by rw [h]; rfl)
        obtain ⟨h6, h7, h8, h9⟩ := s4 (by omega)
        refine call_eq (c_X_fadedMiddle' g (d + 2) (up2 I 0 13 (nI S.k)) D (KX_la I hB _) S (by omega) s3 h7 t sc sd) ?_
        rw [h6]
        refine call_eq (c_X_bitsOf g (d + 2) _ _ (sv fd t (srX I n tk j t (I 0 11))) (fb_fin h8) h9) ?_
        refine sc_by (sc := gsX sc S.n S.k S.la) ?_ ?_ rfl
        · show _ = some (Value.long (if (srX I n tk j t (I 0 11)).n = 0 then _ else _))
          rw [if_neg (by rw [← s1]; exact h5)]
        · show _ = ovX (if (srX I n tk j t (I 0 11)).n = 0 then _ else _) _
          rw [if_neg (by rw [← s1]; exact h5), ← s2]
      · rw [e8, e9]
        have h5 : S.n = 0 := (nI_eq (a := S.n) (b := 0) (by omega) (by decide)).mp c5
        refine call_eq (c_X_tell g (d + 2) _ _ 7) ?_
        refine sc_by (sc := gsX sc S.n S.k S.la) ?_ ?_ rfl
        · show _ = some (Value.long (if (srX I n tk j t (I 0 11)).n = 0 then _ else _))
          rw [if_pos (by rw [← s1]; exact h5)]
        · show _ = ovX (if (srX I n tk j t (I 0 11)).n = 0 then _ else _) _
          rw [if_pos (by rw [← s1]; exact h5), tellX_ov, ← s2]
    · have c4 : ¬ I 25 (nI j).toNatClampNeg = 0 := c4
      rw [decide_eq_false c4]
      refine call_eq (c_X_tell g (d + 2) (ovX I sc) (ovD D sd) 1) ?_
      rw [tellX_ov]
      exact sc_of
  · have h3 : 3000 ≤ I 1 0 := of_decide_eq_true (bI_n0.mp c3)
    rw [decide_eq_true h3]
    exact sc_of
end S48
