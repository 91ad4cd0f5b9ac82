/-! what the reference reckons reads these cells alone -/
def eqM (J I : MI) : Prop := J 103 = I 103 ∧ J 104 = I 104 ∧ J 105 = I 105 ∧ J 106 = I 106 ∧ J 107 = I 107 ∧ J 117 = I 117 ∧ J 119 = I 119 ∧ J 118 = I 118 ∧ J 120 = I 120 ∧ J 91 = I 91 ∧ J 93 = I 93 ∧ J 94 = I 94 ∧ J 95 = I 95 ∧ J 96 = I 96 ∧ J 75 = I 75 ∧ J 76 = I 76 ∧ J 77 = I 77 ∧ J 78 = I 78 ∧ J 80 = I 80 ∧ J 81 = I 81 ∧ J 82 = I 82 ∧ J 79 = I 79 ∧ J 83 = I 83 ∧ J 84 = I 84 ∧ J 85 = I 85 ∧ J 86 = I 86 ∧ J 88 = I 88 ∧ J 87 = I 87 ∧ J 98 = I 98 ∧ J 99 = I 99 ∧ J 97 = I 97 ∧ J 101 = I 101 ∧ J 12 71 = I 12 71 ∧ J 12 72 = I 12 72 ∧ J 12 0 = I 12 0 ∧ J 92 = I 92 ∧ J 123 = I 123 ∧ J 124 = I 124 ∧ J 125 = I 125 ∧ J 127 = I 127
theorem eqM.q_kinds {J I : MI} (e : eqM J I) : J 103 = I 103 := e.1
theorem eqM.q_draughts {J I : MI} (e : eqM J I) : J 104 = I 104 := e.2.1
theorem eqM.q_paces {J I : MI} (e : eqM J I) : J 105 = I 105 := e.2.2.1
theorem eqM.q_xs {J I : MI} (e : eqM J I) : J 106 = I 106 := e.2.2.2.1
theorem eqM.q_parts {J I : MI} (e : eqM J I) : J 107 = I 107 := e.2.2.2.2.1
theorem eqM.q_legs {J I : MI} (e : eqM J I) : J 117 = I 117 := e.2.2.2.2.2.1
theorem eqM.q_legDistance {J I : MI} (e : eqM J I) : J 119 = I 119 := e.2.2.2.2.2.2.1
theorem eqM.q_legShoal {J I : MI} (e : eqM J I) : J 118 = I 118 := e.2.2.2.2.2.2.2.1
theorem eqM.q_legMark {J I : MI} (e : eqM J I) : J 120 = I 120 := e.2.2.2.2.2.2.2.2.1
theorem eqM.q_shoalStation {J I : MI} (e : eqM J I) : J 91 = I 91 := e.2.2.2.2.2.2.2.2.2.1
theorem eqM.q_bedShoal {J I : MI} (e : eqM J I) : J 93 = I 93 := e.2.2.2.2.2.2.2.2.2.2.1
theorem eqM.q_bedDay {J I : MI} (e : eqM J I) : J 94 = I 94 := e.2.2.2.2.2.2.2.2.2.2.2.1
theorem eqM.q_bedTold {J I : MI} (e : eqM J I) : J 95 = I 95 := e.2.2.2.2.2.2.2.2.2.2.2.2.1
theorem eqM.q_bedDepth {J I : MI} (e : eqM J I) : J 96 = I 96 := e.2.2.2.2.2.2.2.2.2.2.2.2.2.1
theorem eqM.q_surveyStation {J I : MI} (e : eqM J I) : J 75 = I 75 := e.2.2.2.2.2.2.2.2.2.2.2.2.2.2.1
theorem eqM.q_surveyDay {J I : MI} (e : eqM J I) : J 76 = I 76 := e.2.2.2.2.2.2.2.2.2.2.2.2.2.2.2.1
theorem eqM.q_surveyTold {J I : MI} (e : eqM J I) : J 77 = I 77 := e.2.2.2.2.2.2.2.2.2.2.2.2.2.2.2.2.1
theorem eqM.q_surveyMean {J I : MI} (e : eqM J I) : J 78 = I 78 := e.2.2.2.2.2.2.2.2.2.2.2.2.2.2.2.2.2.1
theorem eqM.q_surveySizes {J I : MI} (e : eqM J I) : J 80 = I 80 := e.2.2.2.2.2.2.2.2.2.2.2.2.2.2.2.2.2.2.1
theorem eqM.q_surveySpeeds {J I : MI} (e : eqM J I) : J 81 = I 81 := e.2.2.2.2.2.2.2.2.2.2.2.2.2.2.2.2.2.2.2.1
theorem eqM.q_surveyPhases {J I : MI} (e : eqM J I) : J 82 = I 82 := e.2.2.2.2.2.2.2.2.2.2.2.2.2.2.2.2.2.2.2.2.1
theorem eqM.q_surveyWaves {J I : MI} (e : eqM J I) : J 79 = I 79 := e.2.2.2.2.2.2.2.2.2.2.2.2.2.2.2.2.2.2.2.2.2.1
theorem eqM.q_gaugeStation {J I : MI} (e : eqM J I) : J 83 = I 83 := e.2.2.2.2.2.2.2.2.2.2.2.2.2.2.2.2.2.2.2.2.2.2.1
theorem eqM.q_gaugeFirst {J I : MI} (e : eqM J I) : J 84 = I 84 := e.2.2.2.2.2.2.2.2.2.2.2.2.2.2.2.2.2.2.2.2.2.2.2.1
theorem eqM.q_gaugeStep {J I : MI} (e : eqM J I) : J 85 = I 85 := e.2.2.2.2.2.2.2.2.2.2.2.2.2.2.2.2.2.2.2.2.2.2.2.2.1
theorem eqM.q_isOut {J I : MI} (e : eqM J I) : J 86 = I 86 := e.2.2.2.2.2.2.2.2.2.2.2.2.2.2.2.2.2.2.2.2.2.2.2.2.2.1
theorem eqM.q_shorts {J I : MI} (e : eqM J I) : J 88 = I 88 := e.2.2.2.2.2.2.2.2.2.2.2.2.2.2.2.2.2.2.2.2.2.2.2.2.2.2.1
theorem eqM.q_readings {J I : MI} (e : eqM J I) : J 87 = I 87 := e.2.2.2.2.2.2.2.2.2.2.2.2.2.2.2.2.2.2.2.2.2.2.2.2.2.2.2.1
theorem eqM.q_waterMoment {J I : MI} (e : eqM J I) : J 98 = I 98 := e.2.2.2.2.2.2.2.2.2.2.2.2.2.2.2.2.2.2.2.2.2.2.2.2.2.2.2.2.1
theorem eqM.q_isHigh {J I : MI} (e : eqM J I) : J 99 = I 99 := e.2.2.2.2.2.2.2.2.2.2.2.2.2.2.2.2.2.2.2.2.2.2.2.2.2.2.2.2.2.1
theorem eqM.q_waters {J I : MI} (e : eqM J I) : J 97 = I 97 := e.2.2.2.2.2.2.2.2.2.2.2.2.2.2.2.2.2.2.2.2.2.2.2.2.2.2.2.2.2.2.1
theorem eqM.q_streams {J I : MI} (e : eqM J I) : J 101 = I 101 := e.2.2.2.2.2.2.2.2.2.2.2.2.2.2.2.2.2.2.2.2.2.2.2.2.2.2.2.2.2.2.2.1
theorem eqM.q_orise {J I : MI} (e : eqM J I) : J 12 71 = I 12 71 := e.2.2.2.2.2.2.2.2.2.2.2.2.2.2.2.2.2.2.2.2.2.2.2.2.2.2.2.2.2.2.2.2.1
theorem eqM.q_oset {J I : MI} (e : eqM J I) : J 12 72 = I 12 72 := e.2.2.2.2.2.2.2.2.2.2.2.2.2.2.2.2.2.2.2.2.2.2.2.2.2.2.2.2.2.2.2.2.2.1
theorem eqM.q_onow {J I : MI} (e : eqM J I) : J 12 0 = I 12 0 := e.2.2.2.2.2.2.2.2.2.2.2.2.2.2.2.2.2.2.2.2.2.2.2.2.2.2.2.2.2.2.2.2.2.2.1
theorem eqM.q_locks {J I : MI} (e : eqM J I) : J 92 = I 92 := e.2.2.2.2.2.2.2.2.2.2.2.2.2.2.2.2.2.2.2.2.2.2.2.2.2.2.2.2.2.2.2.2.2.2.2.1
theorem eqM.q_passShip {J I : MI} (e : eqM J I) : J 123 = I 123 := e.2.2.2.2.2.2.2.2.2.2.2.2.2.2.2.2.2.2.2.2.2.2.2.2.2.2.2.2.2.2.2.2.2.2.2.2.1
theorem eqM.q_passRoute {J I : MI} (e : eqM J I) : J 124 = I 124 := e.2.2.2.2.2.2.2.2.2.2.2.2.2.2.2.2.2.2.2.2.2.2.2.2.2.2.2.2.2.2.2.2.2.2.2.2.2.1
theorem eqM.q_passFrom {J I : MI} (e : eqM J I) : J 125 = I 125 := e.2.2.2.2.2.2.2.2.2.2.2.2.2.2.2.2.2.2.2.2.2.2.2.2.2.2.2.2.2.2.2.2.2.2.2.2.2.2.1
theorem eqM.q_since {J I : MI} (e : eqM J I) : J 127 = I 127 := e.2.2.2.2.2.2.2.2.2.2.2.2.2.2.2.2.2.2.2.2.2.2.2.2.2.2.2.2.2.2.2.2.2.2.2.2.2.2.2
section S98
variable {J I : MI}
theorem askM_c (e : eqM J I) (w : Int32) : askM J w = askM I w := by
  unfold askM
  rw [e.q_kinds, e.q_draughts, e.q_paces, e.q_xs, e.q_parts]
theorem bdM_c (e : eqM J I) (s : Int32) : bdM J s = bdM I s := by
  unfold bdM
  rw [askM_c e, askM_c e, askM_c e]
theorem sfM_c (e : eqM J I) (s t k : Int32) (n : Nat) : sfM J s t k n = sfM I s t k n := by
  unfold sfM
  rw [e.q_surveyStation, e.q_surveyDay, e.q_surveyTold]
theorem bfM_c (e : eqM J I) (s t k : Int32) (b : Nat) : bfM J s t k b = bfM I s t k b := by
  unfold bfM
  rw [e.q_bedShoal, e.q_bedDay, e.q_bedTold]
theorem hgtM_c (e : eqM J I) (n : Nat) (s t k : Int32) : hgtM J n s t k = hgtM I n s t k := by
  unfold hgtM
  rw [e.q_surveyStation, e.q_surveyDay, e.q_surveyTold, e.q_surveyMean, e.q_surveySizes, e.q_surveySpeeds, e.q_surveyPhases, e.q_surveyWaves]
theorem dpM_c (e : eqM J I) (n b x : Nat) (t k : Int32) : dpM J n b x t k = dpM I n b x t k := by
  unfold dpM
  rw [bfM_c e, hgtM_c e, e.q_bedDepth, e.q_shoalStation]
theorem srM_c (e : eqM J I) (n tk j : Nat) (t : Int32) : srM J n tk j t = srM I n tk j t := by
  unfold srM moM shM' noM hhM
  rw [e.q_gaugeFirst, e.q_gaugeStep, e.q_shorts, e.q_readings, e.q_gaugeStation, e.q_onow]
  have e1 : (fun m => decide (sfM J (I 83 j) m (I 12 0) n = -1)) = (fun m => decide (sfM I (I 83 j) m (I 12 0) n = -1)) := by
    funext m
    rw [sfM_c e]
  have e2 : (fun m => hgtM J n (I 83 j) m (I 12 0)) = (fun m => hgtM I n (I 83 j) m (I 12 0)) := by
    funext m
    rw [hgtM_c e]
  rw [e1, e2]
theorem wtM_c (e : eqM J I) (n m tk fd b x : Nat) (t : Int32) : wtM J n m tk fd b x t = wtM I n m tk fd b x t := by
  unfold wtM fgM
  rw [dpM_c e, srM_c e, e.q_gaugeStation, e.q_shoalStation, e.q_isOut, e.q_onow]
theorem lgMf_e (e : eqM J I) (n m tk fd b : Nat) (bd : Bool) (nd : Int32) (p : Nat) (u : Int32) : lgMf J n m tk fd b bd nd p u = lgMf I n m tk fd b bd nd p u := by
  unfold lgMf mwM hwM
  rw [wtM_c e, bfM_c e, sfM_c e, e.q_legShoal, e.q_shoalStation, e.q_legMark, e.q_waterMoment, e.q_isHigh, e.q_waters, e.q_streams, e.q_orise, e.q_oset, e.q_onow]
theorem minM_c (e : eqM J I) (n m tk fd b r : Nat) (s mi : Int32) : minM J n m tk fd b r s mi = minM I n m tk fd b r s mi := by
  unfold minM
  rw [askM_c e, askM_c e, askM_c e, e.q_legs]
  have e1 : coM J r mi (askM I 2 5 s).2.1 = coM I r mi (askM I 2 5 s).2.1 := by
    funext i
    unfold coM
    rw [e.q_legDistance]
  have e2 : ltM J n m tk fd b r (decide ((askM I 4 5 s).2.1 = 1)) (askM I 0 5 s).2.1 mi (askM I 2 5 s).2.1 = ltM I n m tk fd b r (decide ((askM I 4 5 s).2.1 = 1)) (askM I 0 5 s).2.1 mi (askM I 2 5 s).2.1 := by
    funext i
    unfold ltM
    rw [lgMf_e e, e1]
  rw [e1, e2]
theorem gtM_c (e : eqM J I) (s : Int32) (r : Nat) : gtM J s r = gtM I s r := by
  unfold gtM
  rw [askM_c e, askM_c e, askM_c e, e.q_legs, e.q_legShoal, e.q_locks]
theorem eqM_tr (T : Tr) : eqM (trX I T) I := ⟨rfl, rfl, rfl, rfl, rfl, rfl, rfl, rfl, rfl, rfl, rfl, rfl, rfl, rfl, rfl, rfl, rfl, rfl, rfl, rfl, rfl, rfl, rfl, rfl, rfl, rfl, rfl, rfl, rfl, rfl, rfl, rfl, rfl, rfl, rfl, rfl, rfl, rfl, rfl, rfl⟩
theorem eqM_te (f : Int32) : eqM (tellX f I) I := ⟨rfl, rfl, rfl, rfl, rfl, rfl, rfl, rfl, rfl, rfl, rfl, rfl, rfl, rfl, rfl, rfl, rfl, rfl, rfl, rfl, rfl, rfl, rfl, rfl, rfl, rfl, rfl, rfl, rfl, rfl, rfl, rfl, rfl, rfl, rfl, rfl, rfl, rfl, rfl, rfl⟩
theorem eqM_t {K : MI} (e : eqM K J) (e2 : eqM J I) : eqM K I := ⟨e.q_kinds.trans e2.q_kinds, e.q_draughts.trans e2.q_draughts, e.q_paces.trans e2.q_paces, e.q_xs.trans e2.q_xs, e.q_parts.trans e2.q_parts, e.q_legs.trans e2.q_legs, e.q_legDistance.trans e2.q_legDistance, e.q_legShoal.trans e2.q_legShoal, e.q_legMark.trans e2.q_legMark, e.q_shoalStation.trans e2.q_shoalStation, e.q_bedShoal.trans e2.q_bedShoal, e.q_bedDay.trans e2.q_bedDay, e.q_bedTold.trans e2.q_bedTold, e.q_bedDepth.trans e2.q_bedDepth, e.q_surveyStation.trans e2.q_surveyStation, e.q_surveyDay.trans e2.q_surveyDay, e.q_surveyTold.trans e2.q_surveyTold, e.q_surveyMean.trans e2.q_surveyMean, e.q_surveySizes.trans e2.q_surveySizes, e.q_surveySpeeds.trans e2.q_surveySpeeds, e.q_surveyPhases.trans e2.q_surveyPhases, e.q_surveyWaves.trans e2.q_surveyWaves, e.q_gaugeStation.trans e2.q_gaugeStation, e.q_gaugeFirst.trans e2.q_gaugeFirst, e.q_gaugeStep.trans e2.q_gaugeStep, e.q_isOut.trans e2.q_isOut, e.q_shorts.trans e2.q_shorts, e.q_readings.trans e2.q_readings, e.q_waterMoment.trans e2.q_waterMoment, e.q_isHigh.trans e2.q_isHigh, e.q_waters.trans e2.q_waters, e.q_streams.trans e2.q_streams, e.q_orise.trans e2.q_orise, e.q_oset.trans e2.q_oset, e.q_onow.trans e2.q_onow, e.q_locks.trans e2.q_locks, e.q_passShip.trans e2.q_passShip, e.q_passRoute.trans e2.q_passRoute, e.q_passFrom.trans e2.q_passFrom, e.q_since.trans e2.q_since⟩
end S98
