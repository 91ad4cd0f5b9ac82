section S59
variable (g : Gp) (d : Nat) (I : MI) (D : MD)
/-- what a question leaves: THE TRACE, the fault -/
def asP (I : MI) (D : MD) (T : Tr) (sc : MI) (r : AskR) : Po := fun o J E => E = D ∧ J = ovX (trX I (begsT T r.2.2)) (up2 sc 6 10 r.1) ∧ ∃ v, o = some (.int v) ∧ (r.1 = 0 → v = r.2.1)
/-- all parts of PAIRS are SHIPS or NOTHING -/
def shOk (kd p1 p2 : Nat → Int32) (m : Nat) : Prop := ∀ j, j < m → kd j = 4 → shN (p1 j) m = true ∧ shN (p2 j) m = true
theorem shN_e {s : Int32} {m : Nat} (hm : m < 2 ^ 31) (h : shN s m = true) : s = -1 ∨ ∃ j, j < m ∧ s = nI j := by
  unfold shN at h
  rcases Bool.or_eq_true_iff.mp h with h | h
  · exact Or.inl (of_decide_eq_true h)
  · exact Or.inr (ix_nI hm h)
theorem askF_own {kd dr pc xx p1 p2 : Nat → Int32} {w : Int32} {e j : Nat} (hj : j < 2 ^ 31) (h : ¬ (kd j = 4 ∧ ¬ w = 1)) : askF kd dr pc xx p1 p2 w (e + 1) (nI j) = ownA w (kd j) (dr j) (pc j) (xx j) := by
  unfold askF
  rw [if_neg (nI_neg1 hj), nI_clamp hj, if_neg h]
theorem askF_no {kd dr pc xx p1 p2 : Nat → Int32} {w : Int32} {e : Nat} : askF kd dr pc xx p1 p2 w (e + 1) (-1) = (1, 0, []) := by
  unfold askF
  rw [if_pos rfl]
theorem askF_pr {kd dr pc xx p1 p2 : Nat → Int32} {w : Int32} {e j : Nat} (hj : j < 2 ^ 31) (h : kd j = 4 ∧ ¬ w = 1) : askF kd dr pc xx p1 p2 w (e + 1) (nI j) = (if ¬ (askF kd dr pc xx p1 p2 w e (p1 j)).1 = 0 ∨ (w = 4 ∧ (askF kd dr pc xx p1 p2 w e (p1 j)).2.1 = 1) then ((askF kd dr pc xx p1 p2 w e (p1 j)).1, (askF kd dr pc xx p1 p2 w e (p1 j)).2.1, pairBd w :: (askF kd dr pc xx p1 p2 w e (p1 j)).2.2)
       else ((askF kd dr pc xx p1 p2 w e (p2 j)).1, joinV w (askF kd dr pc xx p1 p2 w e (p1 j)).2.1 (askF kd dr pc xx p1 p2 w e (p2 j)).2.1, pairBd w :: ((askF kd dr pc xx p1 p2 w e (p1 j)).2.2 ++ (askF kd dr pc xx p1 p2 w e (p2 j)).2.2))) := by
  conv => lhs; unfold askF
  rw [if_neg (nI_neg1 hj), nI_clamp hj, if_pos h]
set_option maxHeartbeats 2000000 in
theorem c_X_askFor (m : Nat) (hm : m ≤ 40) (hP : shOk (I 42) (I 46) (I 47) m) (w : Int32) (hw : wi w 0 4 = true) : ∀ (f e : Nat), e + f = 5 → ∀ (s : Int32) (T : Tr) (sc : MI), shN s m = true → T.1 ≤ 100 → (e = 0 ∨ sc 6 10 = 0) → Con g SHc (d + 2 * f + 3) 79 [.ref 6, .int s, .int w, .int (nI e)] (ovX (trX I T) sc) D (asP I D T sc (askX I w f s)) := by
  intro f
  induction f with
  | zero =>
    intro e he s T sc hs hT h0
    have he : e = 5 := by omega
    subst he
    refine Con.mk (LV := v_Ships_askFor) k_Ships_askFor (Nat.le_of_ble_eq_true rfl) (fun K hK => ?_)
    refine hK (0, 141, o_Ships_askFor_0) (List.mem_of_getElem? (i := 0) rfl) _ _ _ _ ?_
    have fin : ∀ sc', sc' = sc → asP I D T sc (askX I w 0 s) (some (.int 0)) (up2 (ovX (trX I T) sc') 6 10 1) D := by
      intro sc' h
      rw [h]
      exact ⟨rfl, ov_up2 _ _ _ _ _ rfl, 0, rfl, fun z => absurd (show (1 : Int32) = 0 from z) (by decide)⟩
    refine And.intro (fun _ => ?_) (fun z => absurd z (by decide))
    refine And.intro (fun c1 => ?_) (fun c1 => ?_)
    · exact fin sc rfl
    refine And.intro (fun z => absurd z (by decide)) (fun _ => ?_)
    exact fin sc rfl
  | succ f ih =>
    intro e he s T sc hs hT h0
    have hPA : ∀ j, j < m → I 42 j = 4 → ¬ w = 1 → Con g SHc (d + 2 * f + 4) 80 [.ref 6, .int (nI j), .int w, .int (nI e)] (ovX (trX I T) (up2 sc 6 10 0)) D (asP I D T sc (askX I w (f + 1) (nI j))) := by
      intro j hj hk hw1
      have hjc : (nI j).toNatClampNeg = j := nI_clamp (by omega)
      have h40 : inn (nI j) 40 := inn_nI (by omega) (by decide)
      obtain ⟨hp1, hp2⟩ := hP j hj hk
      have eA : askX I w (f + 1) (nI j) = _ := askF_pr (by omega) ⟨hk, hw1⟩
      rw [eA]
      obtain ⟨a, ha⟩ : ∃ a, a = askX I w f (I 46 j) := ⟨_, rfl⟩
      obtain ⟨b, hb⟩ : ∃ b, b = askX I w f (I 47 j) := ⟨_, rfl⟩
      have ihA := ih (e + 1) (by omega) (I 46 j) (begT T (pairBd w)) (up2 sc 6 10 0) hp1 (begT_le hT _) (Or.inr up2_at)
      have ihB := fun T' hT' sc' hs' => ih (e + 1) (by omega) (I 47 j) T' sc' hp2 hT' (Or.inr hs')
      rw [show askF (I 42) (I 43) (I 44) (I 45) (I 46) (I 47) w f (I 46 j) = a from ha.symm, show askF (I 42) (I 43) (I 44) (I 45) (I 46) (I 47) w f (I 47 j) = b from hb.symm]
      rw [← ha, nI_succ] at ihA
      rw [← hb, nI_succ] at ihB
      have hTa : (begsT (begT T (pairBd w)) a.2.2).1 ≤ 100 := begsT_le _ (begT_le hT _)
      refine Con.mk (LV := v_Ships_pairAnswer) k_Ships_pairAnswer (Nat.le_of_ble_eq_true rfl) (fun K hK => ?_)
      refine hK (0, 119, o_Ships_pairAnswer_0) (List.mem_of_getElem? (i := 0) rfl) _ _ _ _ ?_
      refine call_eq (c_X_pairBody g (d + 2 * f + 3) _ _ w) ?_
      refine call_eq (c_X_begin g (d + 2 * f + 3) I D T hT (pairBd w) (up2 sc 6 10 0)) ?_
      refine And.intro (h40) ?_
      rw [hjc]
      refine call_of (mid := 79) (I := ovX (trX I (begT T (pairBd w))) (up2 sc 6 10 0)) ihA ?_
      rintro o J E ⟨rfl, rfl, v, rfl, hv⟩
      have ef : ovX (trX I (begsT (begT T (pairBd w)) a.2.2)) (up2 (up2 sc 6 10 0) 6 10 a.1) 6 10 = a.1 := by
        show up2 (up2 sc 6 10 0) 6 10 a.1 6 10 = a.1
        rw [up2_at]
      refine And.intro (fun c1 => ?_) (fun c1 => ?_)
      · rw [ef] at c1
        rw [if_pos (Or.inl c1)]
        exact ⟨rfl, by rw [up2_up2]; rfl, v, rfl, fun z => absurd z c1⟩
      rw [ef] at c1
      have hv := hv c1
      rw [hv]
      have fin2 : w = 4 → a.2.1 = 1 → asP I E T sc (if ¬ a.1 = 0 ∨ (w = 4 ∧ a.2.1 = 1) then (a.1, a.2.1, pairBd w :: a.2.2) else (b.1, joinV w a.2.1 b.2.1, pairBd w :: (a.2.2 ++ b.2.2))) (some (.int a.2.1)) (ovX (trX I (begsT (begT T (pairBd w)) a.2.2)) (up2 (up2 sc 6 10 0) 6 10 a.1)) E := by
        intro h1 h2
        rw [if_pos (Or.inr ⟨h1, h2⟩)]
        exact ⟨rfl, by rw [up2_up2]; rfl, a.2.1, rfl, fun _ => rfl⟩
      have snd : ¬ (¬ a.1 = 0 ∨ (w = 4 ∧ a.2.1 = 1)) → wp SHc none (retP (asP I E T sc (if ¬ a.1 = 0 ∨ (w = 4 ∧ a.2.1 = 1) then (a.1, a.2.1, pairBd w :: a.2.2) else (b.1, joinV w a.2.1 b.2.1, pairBd w :: (a.2.2 ++ b.2.2))))) (CaD g SHc (d + 2 * f + 4)) v_Ships_pairAnswer K 119 o_Ships_pairAnswer_0 (some 45) [(4, .int a.2.1), (0, .ref 6), (1, .int (nI j)), (2, .int w), (3, .int (nI e))] [] (ovX (trX I (begsT (begT T (pairBd w)) a.2.2)) (up2 (up2 sc 6 10 0) 6 10 a.1)) E := by
        intro hn
        rw [if_neg hn]
        refine And.intro (h40) ?_
        rw [hjc]
        refine call_of (mid := 79) (ihB (begsT (begT T (pairBd w)) a.2.2) hTa (up2 (up2 sc 6 10 0) 6 10 a.1) (by rw [up2_at]; exact c1)) ?_
        rintro o J E' ⟨rfl, rfl, u, rfl, hu⟩
        have done : ∀ z, z = joinV w a.2.1 u → asP I E' T sc (b.1, joinV w a.2.1 b.2.1, pairBd w :: (a.2.2 ++ b.2.2)) (some (.int z)) (ovX (trX I (begsT (begsT (begT T (pairBd w)) a.2.2) b.2.2)) (up2 (up2 (up2 sc 6 10 0) 6 10 a.1) 6 10 b.1)) E' := by
          intro z hz
          refine ⟨rfl, ?_, z, rfl, fun h => ?_⟩
          · rw [up2_up2, up2_up2, show begsT T (pairBd w :: (a.2.2 ++ b.2.2)) = begsT (begT T (pairBd w)) (a.2.2 ++ b.2.2) from rfl, begsT_app]
          · rw [hz, hu h]
        refine And.intro (fun c => ?_) (And.intro (fun c => ?_) (And.intro (fun c => ?_) (And.intro (fun c => ?_) (fun c => ?_))))
        · have c : w = 0 := Int32.toInt_inj.mp c
          refine call_eq (c_X_max g (d + 2 * f + 3) _ _ a.2.1 u) ?_
          refine done _ ?_
          unfold joinV
          rw [if_pos c]
        · exact absurd (Int32.toInt_inj.mp c) hw1
        · have c : w = 2 := Int32.toInt_inj.mp c
          refine call_eq (c_X_min g (d + 2 * f + 3) _ _ a.2.1 u) ?_
          refine done _ ?_
          unfold joinV
          rw [if_neg (show ¬ w = 0 by rw [c]; decide), if_pos c]
        · have c : w = 3 := Int32.toInt_inj.mp c
          refine And.intro (by decide) ?_
          refine done _ ?_
          unfold joinV
          rw [if_neg (show ¬ w = 0 by rw [c]; decide), if_neg (show ¬ w = 2 by rw [c]; decide), if_pos c]
        · have n0 : ¬ w = 0 := fun z => by rw [z] at c; exact absurd c (by decide)
          have n2 : ¬ w = 2 := fun z => by rw [z] at c; exact absurd c (by decide)
          have n3 : ¬ w = 3 := fun z => by rw [z] at c; exact absurd c (by decide)
          refine done _ ?_
          unfold joinV
          rw [if_neg n0, if_neg n2, if_neg n3]
      refine And.intro (fun c2 => ?_) (fun c2 => ?_)
      · exact snd (fun z => z.elim (fun z => z c1) (fun z => c2 z.1))
      refine And.intro (fun c3 => ?_) (fun c3 => ?_)
      · exact snd (fun z => z.elim (fun z => z c1) (fun z => c3 z.2))
      · exact fin2 c2 c3
    refine Con.mk (LV := v_Ships_askFor) k_Ships_askFor (Nat.le_of_ble_eq_true rfl) (fun K hK => ?_)
    refine hK (0, 141, o_Ships_askFor_0) (List.mem_of_getElem? (i := 0) rfl) _ _ _ _ ?_
    have main : wp SHc none (retP (asP I D T sc (askX I w (f + 1) s))) (CaD g SHc (d + 2 * (f + 1) + 3)) v_Ships_askFor K 141 o_Ships_askFor_0 (some 9) (lv_args 0 [.ref 6, .int s, .int w, .int (nI e)]) [] (ovX (trX I T) (up2 sc 6 10 0)) D := by
      rcases shN_e (by omega) hs with rfl | ⟨j, hj, rfl⟩
      · refine And.intro (fun _ => ?_) (fun z => absurd rfl z)
        rw [show askX I w (f + 1) (-1) = (1, 0, []) from askF_no]
        refine ⟨rfl, ?_, 0, rfl, fun z => absurd z (by decide)⟩
        show up2 (ovX (trX I T) (up2 sc 6 10 0)) 6 10 1 = _
        rw [ov_up2 _ _ _ _ _ rfl, up2_up2]
        rfl
      · have hjc : (nI j).toNatClampNeg = j := nI_clamp (by omega)
        have h40 : inn (nI j) 40 := inn_nI (by omega) (by decide)
        refine And.intro (fun z => absurd z (nI_neg1 (by omega))) (fun _ => ?_)
        refine And.intro (fun _ => ?_) (fun z => absurd (show nI e ≤ nI 4 from nI_le (by omega) (by decide)) z)
        refine And.intro (h40) ?_
        rw [hjc]
        have own : ¬ (I 42 j = 4 ∧ ¬ w = 1) → wp SHc none (retP (asP I D T sc (askX I w (f + 1) (nI j)))) (CaD g SHc (d + 2 * (f + 1) + 3)) v_Ships_askFor K 141 o_Ships_askFor_0 (some 49) (lv_args 0 [.ref 6, .int (nI j), .int w, .int (nI e)]) [] (ovX (trX I T) (up2 sc 6 10 0)) D := by
          intro hn
          rw [show askX I w (f + 1) (nI j) = ownA w (I 42 j) (I 43 j) (I 44 j) (I 45 j) from askF_own (by omega) hn]
          unfold ownA
          refine And.intro (fun c => ?_) (And.intro (fun c => ?_) (And.intro (fun c => ?_) (And.intro (fun c => ?_) (fun c => ?_))))
          · have c : w = 0 := Int32.toInt_inj.mp c
            rw [if_pos c]
            refine call_eq (c_X_needOf g (d + 2 * f + 2) I D T hT j (by omega) (up2 sc 6 10 0)) ?_
            exact ⟨rfl, rfl, _, rfl, fun _ => rfl⟩
          · have c : w = 1 := Int32.toInt_inj.mp c
            rw [if_neg (by rw [c]; decide), if_pos c]
            refine call_eq (c_X_keelOf g (d + 2 * f + 3) I D T hT j (by omega) (up2 sc 6 10 0)) ?_
            exact ⟨rfl, rfl, _, rfl, fun _ => rfl⟩
          · have c : w = 2 := Int32.toInt_inj.mp c
            rw [if_neg (by rw [c]; decide), if_neg (by rw [c]; decide), if_pos c]
            refine call_eq (c_X_paceOf g (d + 2 * f + 3) I D T hT j (by omega) (up2 sc 6 10 0)) ?_
            refine ⟨rfl, ?_, _, rfl, fun _ => rfl⟩
            by_cases q : paceF (I 42 j) (I 45 j) = 0
            · rw [if_pos q, q]
            · rw [if_neg q, up2_up2]
          · have c : w = 3 := Int32.toInt_inj.mp c
            rw [if_neg (by rw [c]; decide), if_neg (by rw [c]; decide), if_neg (by rw [c]; decide), if_pos c]
            refine call_eq (c_X_patienceOf g (d + 2 * f + 3) I D T hT j (by omega) (up2 sc 6 10 0)) ?_
            exact ⟨rfl, rfl, _, rfl, fun _ => rfl⟩
          · have n0 : ¬ w = 0 := fun z => by rw [z] at c; exact absurd c (by decide)
            have n1 : ¬ w = 1 := fun z => by rw [z] at c; exact absurd c (by decide)
            have n2 : ¬ w = 2 := fun z => by rw [z] at c; exact absurd c (by decide)
            have n3 : ¬ w = 3 := fun z => by rw [z] at c; exact absurd c (by decide)
            rw [if_neg n0, if_neg n1, if_neg n2, if_neg n3]
            unfold dayV dayB
            refine And.intro (h40) ?_
            rw [hjc]
            refine And.intro (fun c4 => ?_) (fun c4 => ?_)
            · have c4 : ¬ I 42 j = 2 := c4
              rw [if_neg c4, if_neg c4]
              refine call_eq (c_X_begin g (d + 2 * f + 4) I D T hT 50 (up2 sc 6 10 0)) ?_
              refine And.intro (h40) ?_
              rw [hjc]
              refine And.intro (fun _ => ?_) (fun z => absurd z c4)
              exact ⟨rfl, rfl, _, rfl, fun _ => rfl⟩
            · have c4 : I 42 j = 2 := c4
              rw [if_pos c4, if_pos c4]
              refine call_eq (c_X_begin g (d + 2 * f + 4) I D T hT 51 (up2 sc 6 10 0)) ?_
              refine And.intro (h40) ?_
              rw [hjc]
              refine And.intro (fun z => absurd c4 z) (fun _ => ?_)
              exact ⟨rfl, rfl, _, rfl, fun _ => rfl⟩
        refine And.intro (fun c3 => ?_) (fun c3 => ?_)
        · exact own (fun z => c3 z.1)
        refine And.intro (fun c4 => ?_) (fun c4 => ?_)
        · exact own (fun z => z.2 c4)
        refine call_of (hPA j hj c3 c4) ?_
        intro o J E h
        have h' := h
        obtain ⟨rfl, rfl, v, rfl, hv⟩ := h'
        exact h
    rcases Nat.eq_zero_or_pos e with h | h
    · subst h
      refine And.intro (fun z => absurd rfl z) (fun _ => ?_)
      have go := main
      rw [← ov_up2 _ _ _ _ _ rfl] at go
      exact go
    · refine And.intro (fun _ => ?_) (fun z => absurd z (nI_ne0 h (by omega)))
      have hz : sc 6 10 = 0 := h0.elim (fun z => absurd z (by omega)) (fun z => z)
      have go := main
      rw [show up2 sc 6 10 0 = sc by rw [← hz]; exact up2_same _ _ _] at go
      exact go
end S59
