/-! what the class reckons is what the reference reckons -/
theorem hG_c {mean : Int32} {sz sz' an an' : Nat → Int32} : ∀ {w : Nat}, (∀ j, j < w → sz j = sz' j ∧ an j = an' j) → hG mean sz an w = hG mean sz' an' w
  | 0, _ => rfl
  | w + 1, h => by
    unfold hG
    rw [hG_c (w := w) (fun j hj => h j (by omega)), (h w (by omega)).1, (h w (by omega)).2]
section S96
variable {I : MI} {D : MD} {n m tk fd h q sp ms np : Nat}
theorem hgt_eq (H : RSur I) (hn : n ≤ 60) {s t k : Int32} (hne : ¬ sfM I s t k n = -1) : hgtX I n s t k = hgtM I n s t k := by
  obtain ⟨f1, f2, f3, f4, f5, f6⟩ := H
  unfold hgtX hgtM
  rw [f1, f2, f3, if_neg hne, f4, f5]
  rcases ifF_in (I 75) (I 76) (I 77) s t k n with z | ⟨j, hj, z⟩
  · exact absurd z hne
  · rw [z, nI_clamp (show j < 2 ^ 31 by omega)]
    obtain ⟨w, hw, hwe, hrow⟩ := f6 j (by omega)
    rw [hwe, nI_clamp (show w < 2 ^ 31 by omega)]
    refine hG_c (fun i hi => ⟨(hrow i hi).1, ?_⟩)
    rw [(hrow i hi).2.1, (hrow i hi).2.2, ang_eq]
theorem sf_eq (H : RSur I) (s t k : Int32) : sfX I s t k n = sfM I s t k n := by
  unfold sfX sfM
  rw [H.1, H.2.1, H.2.2.1]
theorem bf_eq (H : RSho I) (s t k : Int32) (b : Nat) : bfX I s t k b = bfM I s t k b := by
  unfold bfX bfM
  rw [H.2.2.1, H.2.2.2.1, H.2.2.2.2.1]
theorem dp_eq (H : RSur I) (H2 : RSho I) (hn : n ≤ 60) {b x : Nat} {t k : Int32} (hne : ¬ sfM I (I 91 x) t k n = -1) : dpX I n b x t k = dpM I n b x t k := by
  unfold dpX dpM
  rw [bf_eq H2, H2.1, H2.2.2.2.2.2.1, hgt_eq H hn hne]
theorem sr_eq (H : RSur I) (H2 : RGau I) (hn : n ≤ 60) (tk j : Nat) (t : Int32) : srX I n tk j t (I 12 0) = srM I n tk j t := by
  unfold srX srM srC moX moM shX' shM' noX noM hhX hhM
  rw [H2.1, H2.2.1, H2.2.2.1, H2.2.2.2.2.1, H2.2.2.2.2.2.1]
  have e : (fun m => decide (sfX I (I 83 j) m (I 12 0) n = -1)) = (fun m => decide (sfM I (I 83 j) m (I 12 0) n = -1)) := by
    funext m
    rw [sf_eq H]
  rw [e]
  refine sgF_cong ?_ _
  intro i hi
  exact hgt_eq H hn (of_decide_eq_false hi)
theorem wt_eq (H : RSur I) (H2 : RGau I) (H3 : RSho I) (hn : n ≤ 60) {m tk fd b x : Nat} {t : Int32} (hne : ¬ sfM I (I 91 x) t (I 12 0) n = -1) : wtX I n m tk fd b x t (I 12 0) = wtM I n m tk fd b x t := by
  unfold wtX wtM fgX fgM
  rw [dp_eq H H3 hn hne, sr_eq H H2 hn, H2.1, H3.1, H2.2.2.2.1]
theorem ask_eq (H : RShp I ms) (w : Int32) : askX I w = askM I w := by
  obtain ⟨-, -, -, e1, e2, e3, e4, e5, e6, -⟩ := H
  unfold askX askM
  rw [e1, e2, e3, e4, e5, e6]
theorem bd_eq (H : RShp I ms) (s : Int32) : bdX I s = bdM I s := by
  unfold bdX bdM
  rw [ask_eq H, ask_eq H, ask_eq H]
theorem lg_eq (H : RelP I D n m tk fd h q sp ms np) (b : Nat) (bd : Bool) (nd : Int32) (p : Nat) (u : Int32) : lgXf I n m tk fd b bd nd p u (I 12 0) = lgMf I n m tk fd b bd nd p u := by
  obtain ⟨a1, a2, a3, a4, a5, a6, a7, a8⟩ := H.rou
  obtain ⟨w1, w2, w3, w4, w5, w6, w7, w8, w9, w10, w11⟩ := H.wat
  unfold lgXf lgMf mwX mwM hwX hwM
  rw [a2, a4, a7, a8, w5, w6, w7, w9, H.sho.1, sf_eq H.sur, bf_eq H.sho]
  by_cases hno : bfM I (I 118 p) u (I 12 0) b = -1 ∨ sfM I (I 91 (I 118 p).toNatClampNeg) u (I 12 0) n = -1
  · rw [decide_eq_true hno]
    unfold legA
    split
    · rfl
    · rw [if_pos rfl, if_pos rfl]
  · rw [wt_eq H.sur H.gau H.sho H.cnt.1.1.1 (fun z => hno (Or.inr z))]
theorem min_eq (H : RelP I D n m tk fd h q sp ms np) (b r : Nat) (s mi : Int32) : minX I n m tk fd b r s mi (I 12 0) = minM I n m tk fd b r s mi := by
  unfold minX minM
  rw [ask_eq H.shp, ask_eq H.shp, ask_eq H.shp, H.rou.1]
  have e1 : coX I r mi (askM I 2 5 s).2.1 = coM I r mi (askM I 2 5 s).2.1 := by
    funext i
    unfold coX coM
    rw [H.rou.2.2.1]
  have e2 : ltX I n m tk fd b r (decide ((askM I 4 5 s).2.1 = 1)) (askM I 0 5 s).2.1 mi (askM I 2 5 s).2.1 (I 12 0) = ltM I n m tk fd b r (decide ((askM I 4 5 s).2.1 = 1)) (askM I 0 5 s).2.1 mi (askM I 2 5 s).2.1 := by
    funext i
    unfold ltX ltM
    rw [lg_eq H, e1]
  rw [e1, e2]
theorem gt_eq (H : RelP I D n m tk fd h q sp ms np) (s : Int32) (r : Nat) : gtX I s r = gtM I s r := by
  unfold gtX gtM
  rw [ask_eq H.shp, ask_eq H.shp, ask_eq H.shp, H.rou.1, H.rou.2.1, H.sho.2.1]
end S96
