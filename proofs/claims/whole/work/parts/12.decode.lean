theorem dk_X0_init : ∀ e ∈ rX0_init, decode cX0_init e.1 = .ok (e.2.1, px_ln e.2) := by decide +kernel
theorem bk_X0_init : ∀ e ∈ rX0_init, px_okB mX0_init e.1 e.2 = true := by decide +kernel
theorem dk_X0_write : ∀ e ∈ rX0_write, decode cX0_write e.1 = .ok (e.2.1, px_ln e.2) := by decide +kernel
theorem bk_X0_write : ∀ e ∈ rX0_write, px_okB mX0_write e.1 e.2 = true := by decide +kernel
theorem dk_X0_signAt : ∀ e ∈ rX0_signAt, decode cX0_signAt e.1 = .ok (e.2.1, px_ln e.2) := by decide +kernel
theorem bk_X0_signAt : ∀ e ∈ rX0_signAt, px_okB mX0_signAt e.1 e.2 = true := by decide +kernel
theorem dk_X0_kindOf : ∀ e ∈ rX0_kindOf, decode cX0_kindOf e.1 = .ok (e.2.1, px_ln e.2) := by decide +kernel
theorem bk_X0_kindOf : ∀ e ∈ rX0_kindOf, px_okB mX0_kindOf e.1 e.2 = true := by decide +kernel
theorem dk_X0_numberOf : ∀ e ∈ rX0_numberOf, decode cX0_numberOf e.1 = .ok (e.2.1, px_ln e.2) := by decide +kernel
theorem bk_X0_numberOf : ∀ e ∈ rX0_numberOf, px_okB mX0_numberOf e.1 e.2 = true := by decide +kernel
theorem dk_X0_firstFault : ∀ e ∈ rX0_firstFault, decode cX0_firstFault e.1 = .ok (e.2.1, px_ln e.2) := by decide +kernel
theorem bk_X0_firstFault : ∀ e ∈ rX0_firstFault, px_okB mX0_firstFault e.1 e.2 = true := by decide +kernel
theorem dk_X1_init : ∀ e ∈ rX1_init, decode cX1_init e.1 = .ok (e.2.1, px_ln e.2) := by decide +kernel
theorem bk_X1_init : ∀ e ∈ rX1_init, px_okB mX1_init e.1 e.2 = true := by decide +kernel
theorem dk_X1_copyFrom : ∀ e ∈ rX1_copyFrom, decode cX1_copyFrom e.1 = .ok (e.2.1, px_ln e.2) := by decide +kernel
theorem bk_X1_copyFrom : ∀ e ∈ rX1_copyFrom, px_okB mX1_copyFrom e.1 e.2 = true := by decide +kernel
theorem dk_X1_doneParts : ∀ e ∈ rX1_doneParts, decode cX1_doneParts e.1 = .ok (e.2.1, px_ln e.2) := by decide +kernel
theorem bk_X1_doneParts : ∀ e ∈ rX1_doneParts, px_okB mX1_doneParts e.1 e.2 = true := by decide +kernel
theorem dk_X1_paintedParts : ∀ e ∈ rX1_paintedParts, decode cX1_paintedParts e.1 = .ok (e.2.1, px_ln e.2) := by decide +kernel
theorem bk_X1_paintedParts : ∀ e ∈ rX1_paintedParts, px_okB mX1_paintedParts e.1 e.2 = true := by decide +kernel
theorem dk_X1_powersOf : ∀ e ∈ rX1_powersOf, decode cX1_powersOf e.1 = .ok (e.2.1, px_ln e.2) := by decide +kernel
theorem bk_X1_powersOf : ∀ e ∈ rX1_powersOf, px_okB mX1_powersOf e.1 e.2 = true := by decide +kernel
theorem dk_X1_actsWithin : ∀ e ∈ rX1_actsWithin, decode cX1_actsWithin e.1 = .ok (e.2.1, px_ln e.2) := by decide +kernel
theorem bk_X1_actsWithin : ∀ e ∈ rX1_actsWithin, px_okB mX1_actsWithin e.1 e.2 = true := by decide +kernel
theorem dk_X1_givesAll : ∀ e ∈ rX1_givesAll, decode cX1_givesAll e.1 = .ok (e.2.1, px_ln e.2) := by decide +kernel
theorem bk_X1_givesAll : ∀ e ∈ rX1_givesAll, px_okB mX1_givesAll e.1 e.2 = true := by decide +kernel
theorem dk_X1_partsThatGive : ∀ e ∈ rX1_partsThatGive, decode cX1_partsThatGive e.1 = .ok (e.2.1, px_ln e.2) := by decide +kernel
theorem bk_X1_partsThatGive : ∀ e ∈ rX1_partsThatGive, px_okB mX1_partsThatGive e.1 e.2 = true := by decide +kernel
theorem dk_X1_isPicture : ∀ e ∈ rX1_isPicture, decode cX1_isPicture e.1 = .ok (e.2.1, px_ln e.2) := by decide +kernel
theorem bk_X1_isPicture : ∀ e ∈ rX1_isPicture, px_okB mX1_isPicture e.1 e.2 = true := by decide +kernel
theorem dk_X1_canFinish : ∀ e ∈ rX1_canFinish, decode cX1_canFinish e.1 = .ok (e.2.1, px_ln e.2) := by decide +kernel
theorem bk_X1_canFinish : ∀ e ∈ rX1_canFinish, px_okB mX1_canFinish e.1 e.2 = true := by decide +kernel
theorem dk_X1_hoursToPaint : ∀ e ∈ rX1_hoursToPaint, decode cX1_hoursToPaint e.1 = .ok (e.2.1, px_ln e.2) := by decide +kernel
theorem bk_X1_hoursToPaint : ∀ e ∈ rX1_hoursToPaint, px_okB mX1_hoursToPaint e.1 e.2 = true := by decide +kernel
theorem dk_X1_withAllAbove : ∀ e ∈ rX1_withAllAbove, decode cX1_withAllAbove e.1 = .ok (e.2.1, px_ln e.2) := by decide +kernel
theorem bk_X1_withAllAbove : ∀ e ∈ rX1_withAllAbove, px_okB mX1_withAllAbove e.1 e.2 = true := by decide +kernel
theorem dk_X1_fallingWith : ∀ e ∈ rX1_fallingWith, decode cX1_fallingWith e.1 = .ok (e.2.1, px_ln e.2) := by decide +kernel
theorem bk_X1_fallingWith : ∀ e ∈ rX1_fallingWith, px_okB mX1_fallingWith e.1 e.2 = true := by decide +kernel
theorem dk_X1_powersThereAre : ∀ e ∈ rX1_powersThereAre, decode cX1_powersThereAre e.1 = .ok (e.2.1, px_ln e.2) := by decide +kernel
theorem bk_X1_powersThereAre : ∀ e ∈ rX1_powersThereAre, px_okB mX1_powersThereAre e.1 e.2 = true := by decide +kernel
theorem dk_X1_whyNot : ∀ e ∈ rX1_whyNot, decode cX1_whyNot e.1 = .ok (e.2.1, px_ln e.2) := by decide +kernel
theorem bk_X1_whyNot : ∀ e ∈ rX1_whyNot, px_okB mX1_whyNot e.1 e.2 = true := by decide +kernel
theorem dk_X1_whyNotPaint : ∀ e ∈ rX1_whyNotPaint, decode cX1_whyNotPaint e.1 = .ok (e.2.1, px_ln e.2) := by decide +kernel
theorem bk_X1_whyNotPaint : ∀ e ∈ rX1_whyNotPaint, px_okB mX1_whyNotPaint e.1 e.2 = true := by decide +kernel
theorem dk_X1_whyNotMake : ∀ e ∈ rX1_whyNotMake, decode cX1_whyNotMake e.1 = .ok (e.2.1, px_ln e.2) := by decide +kernel
theorem bk_X1_whyNotMake : ∀ e ∈ rX1_whyNotMake, px_okB mX1_whyNotMake e.1 e.2 = true := by decide +kernel
theorem dk_X1_takeIfItCanBe : ∀ e ∈ rX1_takeIfItCanBe, decode cX1_takeIfItCanBe e.1 = .ok (e.2.1, px_ln e.2) := by decide +kernel
theorem bk_X1_takeIfItCanBe : ∀ e ∈ rX1_takeIfItCanBe, px_okB mX1_takeIfItCanBe e.1 e.2 = true := by decide +kernel
theorem dk_X1_paint : ∀ e ∈ rX1_paint, decode cX1_paint e.1 = .ok (e.2.1, px_ln e.2) := by decide +kernel
theorem bk_X1_paint : ∀ e ∈ rX1_paint, px_okB mX1_paint e.1 e.2 = true := by decide +kernel
theorem dk_X1_unpaint : ∀ e ∈ rX1_unpaint, decode cX1_unpaint e.1 = .ok (e.2.1, px_ln e.2) := by decide +kernel
theorem bk_X1_unpaint : ∀ e ∈ rX1_unpaint, px_okB mX1_unpaint e.1 e.2 = true := by decide +kernel
theorem dk_X1_repeal : ∀ e ∈ rX1_repeal, decode cX1_repeal e.1 = .ok (e.2.1, px_ln e.2) := by decide +kernel
theorem bk_X1_repeal : ∀ e ∈ rX1_repeal, px_okB mX1_repeal e.1 e.2 = true := by decide +kernel
theorem dk_X1_paintLeast : ∀ e ∈ rX1_paintLeast, decode cX1_paintLeast e.1 = .ok (e.2.1, px_ln e.2) := by decide +kernel
theorem bk_X1_paintLeast : ∀ e ∈ rX1_paintLeast, px_okB mX1_paintLeast e.1 e.2 = true := by decide +kernel
theorem dk_X1_addSight : ∀ e ∈ rX1_addSight, decode cX1_addSight e.1 = .ok (e.2.1, px_ln e.2) := by decide +kernel
theorem bk_X1_addSight : ∀ e ∈ rX1_addSight, px_okB mX1_addSight e.1 e.2 = true := by decide +kernel
theorem dk_X1_nextSightStep : ∀ e ∈ rX1_nextSightStep, decode cX1_nextSightStep e.1 = .ok (e.2.1, px_ln e.2) := by decide +kernel
theorem bk_X1_nextSightStep : ∀ e ∈ rX1_nextSightStep, px_okB mX1_nextSightStep e.1 e.2 = true := by decide +kernel
theorem dk_X1_fitsSightsAt : ∀ e ∈ rX1_fitsSightsAt, decode cX1_fitsSightsAt e.1 = .ok (e.2.1, px_ln e.2) := by decide +kernel
theorem bk_X1_fitsSightsAt : ∀ e ∈ rX1_fitsSightsAt, px_okB mX1_fitsSightsAt e.1 e.2 = true := by decide +kernel
theorem dk_X1_tellState : ∀ e ∈ rX1_tellState, decode cX1_tellState e.1 = .ok (e.2.1, px_ln e.2) := by decide +kernel
theorem bk_X1_tellState : ∀ e ∈ rX1_tellState, px_okB mX1_tellState e.1 e.2 = true := by decide +kernel
theorem dk_X1_tellPart : ∀ e ∈ rX1_tellPart, decode cX1_tellPart e.1 = .ok (e.2.1, px_ln e.2) := by decide +kernel
theorem bk_X1_tellPart : ∀ e ∈ rX1_tellPart, px_okB mX1_tellPart e.1 e.2 = true := by decide +kernel
theorem dk_X2_init : ∀ e ∈ rX2_init, decode cX2_init e.1 = .ok (e.2.1, px_ln e.2) := by decide +kernel
theorem bk_X2_init : ∀ e ∈ rX2_init, px_okB mX2_init e.1 e.2 = true := by decide +kernel
theorem dk_X2_part : ∀ e ∈ rX2_part, decode cX2_part e.1 = .ok (e.2.1, px_ln e.2) := by decide +kernel
theorem bk_X2_part : ∀ e ∈ rX2_part, px_okB mX2_part e.1 e.2 = true := by decide +kernel
theorem dk_X2_needs : ∀ e ∈ rX2_needs, decode cX2_needs e.1 = .ok (e.2.1, px_ln e.2) := by decide +kernel
theorem bk_X2_needs : ∀ e ∈ rX2_needs, px_okB mX2_needs e.1 e.2 = true := by decide +kernel
theorem dk_X2_say : ∀ e ∈ rX2_say, decode cX2_say e.1 = .ok (e.2.1, px_ln e.2) := by decide +kernel
theorem bk_X2_say : ∀ e ∈ rX2_say, px_okB mX2_say e.1 e.2 = true := by decide +kernel
theorem dk_X2_wipe : ∀ e ∈ rX2_wipe, decode cX2_wipe e.1 = .ok (e.2.1, px_ln e.2) := by decide +kernel
theorem bk_X2_wipe : ∀ e ∈ rX2_wipe, px_okB mX2_wipe e.1 e.2 = true := by decide +kernel
theorem dk_X2_fault : ∀ e ∈ rX2_fault, decode cX2_fault e.1 = .ok (e.2.1, px_ln e.2) := by decide +kernel
theorem bk_X2_fault : ∀ e ∈ rX2_fault, px_okB mX2_fault e.1 e.2 = true := by decide +kernel
theorem dk_X2_judge : ∀ e ∈ rX2_judge, decode cX2_judge e.1 = .ok (e.2.1, px_ln e.2) := by decide +kernel
theorem bk_X2_judge : ∀ e ∈ rX2_judge, px_okB mX2_judge e.1 e.2 = true := by decide +kernel
theorem dk_X2_done : ∀ e ∈ rX2_done, decode cX2_done e.1 = .ok (e.2.1, px_ln e.2) := by decide +kernel
theorem bk_X2_done : ∀ e ∈ rX2_done, px_okB mX2_done e.1 e.2 = true := by decide +kernel
theorem dk_X2_state : ∀ e ∈ rX2_state, decode cX2_state e.1 = .ok (e.2.1, px_ln e.2) := by decide +kernel
theorem bk_X2_state : ∀ e ∈ rX2_state, px_okB mX2_state e.1 e.2 = true := by decide +kernel
theorem dk_X2_behind : ∀ e ∈ rX2_behind, decode cX2_behind e.1 = .ok (e.2.1, px_ln e.2) := by decide +kernel
theorem bk_X2_behind : ∀ e ∈ rX2_behind, px_okB mX2_behind e.1 e.2 = true := by decide +kernel
theorem dk_X2_can : ∀ e ∈ rX2_can, decode cX2_can e.1 = .ok (e.2.1, px_ln e.2) := by decide +kernel
theorem bk_X2_can : ∀ e ∈ rX2_can, px_okB mX2_can e.1 e.2 = true := by decide +kernel
theorem dk_X2_lacks : ∀ e ∈ rX2_lacks, decode cX2_lacks e.1 = .ok (e.2.1, px_ln e.2) := by decide +kernel
theorem bk_X2_lacks : ∀ e ∈ rX2_lacks, px_okB mX2_lacks e.1 e.2 = true := by decide +kernel
theorem dk_X2_plan : ∀ e ∈ rX2_plan, decode cX2_plan e.1 = .ok (e.2.1, px_ln e.2) := by decide +kernel
theorem bk_X2_plan : ∀ e ∈ rX2_plan, px_okB mX2_plan e.1 e.2 = true := by decide +kernel
theorem dk_X2_orders : ∀ e ∈ rX2_orders, decode cX2_orders e.1 = .ok (e.2.1, px_ln e.2) := by decide +kernel
theorem bk_X2_orders : ∀ e ∈ rX2_orders, px_okB mX2_orders e.1 e.2 = true := by decide +kernel
theorem dk_X2_bar : ∀ e ∈ rX2_bar, decode cX2_bar e.1 = .ok (e.2.1, px_ln e.2) := by decide +kernel
theorem bk_X2_bar : ∀ e ∈ rX2_bar, px_okB mX2_bar e.1 e.2 = true := by decide +kernel
theorem dk_X2_falls : ∀ e ∈ rX2_falls, decode cX2_falls e.1 = .ok (e.2.1, px_ln e.2) := by decide +kernel
theorem bk_X2_falls : ∀ e ∈ rX2_falls, px_okB mX2_falls e.1 e.2 = true := by decide +kernel
theorem dk_X2_alone : ∀ e ∈ rX2_alone, decode cX2_alone e.1 = .ok (e.2.1, px_ln e.2) := by decide +kernel
theorem bk_X2_alone : ∀ e ∈ rX2_alone, px_okB mX2_alone e.1 e.2 = true := by decide +kernel
theorem dk_X2_guard : ∀ e ∈ rX2_guard, decode cX2_guard e.1 = .ok (e.2.1, px_ln e.2) := by decide +kernel
theorem bk_X2_guard : ∀ e ∈ rX2_guard, px_okB mX2_guard e.1 e.2 = true := by decide +kernel
theorem dk_X2_seen : ∀ e ∈ rX2_seen, decode cX2_seen e.1 = .ok (e.2.1, px_ln e.2) := by decide +kernel
theorem bk_X2_seen : ∀ e ∈ rX2_seen, px_okB mX2_seen e.1 e.2 = true := by decide +kernel
theorem dk_X2_forget : ∀ e ∈ rX2_forget, decode cX2_forget e.1 = .ok (e.2.1, px_ln e.2) := by decide +kernel
theorem bk_X2_forget : ∀ e ∈ rX2_forget, px_okB mX2_forget e.1 e.2 = true := by decide +kernel
theorem dk_X2_hidden : ∀ e ∈ rX2_hidden, decode cX2_hidden e.1 = .ok (e.2.1, px_ln e.2) := by decide +kernel
theorem bk_X2_hidden : ∀ e ∈ rX2_hidden, px_okB mX2_hidden e.1 e.2 = true := by decide +kernel
theorem dk_X2_tries : ∀ e ∈ rX2_tries, decode cX2_tries e.1 = .ok (e.2.1, px_ln e.2) := by decide +kernel
theorem bk_X2_tries : ∀ e ∈ rX2_tries, px_okB mX2_tries e.1 e.2 = true := by decide +kernel
theorem dk_X2_send : ∀ e ∈ rX2_send, decode cX2_send e.1 = .ok (e.2.1, px_ln e.2) := by decide +kernel
theorem bk_X2_send : ∀ e ∈ rX2_send, px_okB mX2_send e.1 e.2 = true := by decide +kernel
theorem dk_X2_makes : ∀ e ∈ rX2_makes, decode cX2_makes e.1 = .ok (e.2.1, px_ln e.2) := by decide +kernel
theorem bk_X2_makes : ∀ e ∈ rX2_makes, px_okB mX2_makes e.1 e.2 = true := by decide +kernel
theorem dk_X2_quarrel : ∀ e ∈ rX2_quarrel, decode cX2_quarrel e.1 = .ok (e.2.1, px_ln e.2) := by decide +kernel
theorem bk_X2_quarrel : ∀ e ∈ rX2_quarrel, px_okB mX2_quarrel e.1 e.2 = true := by decide +kernel
theorem dk_X2_sent : ∀ e ∈ rX2_sent, decode cX2_sent e.1 = .ok (e.2.1, px_ln e.2) := by decide +kernel
theorem bk_X2_sent : ∀ e ∈ rX2_sent, px_okB mX2_sent e.1 e.2 = true := by decide +kernel
theorem dk_X2_turns : ∀ e ∈ rX2_turns, decode cX2_turns e.1 = .ok (e.2.1, px_ln e.2) := by decide +kernel
theorem bk_X2_turns : ∀ e ∈ rX2_turns, px_okB mX2_turns e.1 e.2 = true := by decide +kernel
theorem dk_X2_fever : ∀ e ∈ rX2_fever, decode cX2_fever e.1 = .ok (e.2.1, px_ln e.2) := by decide +kernel
theorem bk_X2_fever : ∀ e ∈ rX2_fever, px_okB mX2_fever e.1 e.2 = true := by decide +kernel
theorem dk_X2_year : ∀ e ∈ rX2_year, decode cX2_year e.1 = .ok (e.2.1, px_ln e.2) := by decide +kernel
theorem bk_X2_year : ∀ e ∈ rX2_year, px_okB mX2_year e.1 e.2 = true := by decide +kernel
theorem dk_X2_image : ∀ e ∈ rX2_image, decode cX2_image e.1 = .ok (e.2.1, px_ln e.2) := by decide +kernel
theorem bk_X2_image : ∀ e ∈ rX2_image, px_okB mX2_image e.1 e.2 = true := by decide +kernel
theorem dk_X2_restore : ∀ e ∈ rX2_restore, decode cX2_restore e.1 = .ok (e.2.1, px_ln e.2) := by decide +kernel
theorem bk_X2_restore : ∀ e ∈ rX2_restore, px_okB mX2_restore e.1 e.2 = true := by decide +kernel
theorem dk_X2_told : ∀ e ∈ rX2_told, decode cX2_told e.1 = .ok (e.2.1, px_ln e.2) := by decide +kernel
theorem bk_X2_told : ∀ e ∈ rX2_told, px_okB mX2_told e.1 e.2 = true := by decide +kernel
theorem dk_X2_isOfEight : ∀ e ∈ rX2_isOfEight, decode cX2_isOfEight e.1 = .ok (e.2.1, px_ln e.2) := by decide +kernel
theorem bk_X2_isOfEight : ∀ e ∈ rX2_isOfEight, px_okB mX2_isOfEight e.1 e.2 = true := by decide +kernel
theorem dk_X2_isSet : ∀ e ∈ rX2_isSet, decode cX2_isSet e.1 = .ok (e.2.1, px_ln e.2) := by decide +kernel
theorem bk_X2_isSet : ∀ e ∈ rX2_isSet, px_okB mX2_isSet e.1 e.2 = true := by decide +kernel
theorem dk_X2_isEitherOne : ∀ e ∈ rX2_isEitherOne, decode cX2_isEitherOne e.1 = .ok (e.2.1, px_ln e.2) := by decide +kernel
theorem bk_X2_isEitherOne : ∀ e ∈ rX2_isEitherOne, px_okB mX2_isEitherOne e.1 e.2 = true := by decide +kernel
theorem dk_X2_isColony : ∀ e ∈ rX2_isColony, decode cX2_isColony e.1 = .ok (e.2.1, px_ln e.2) := by decide +kernel
theorem bk_X2_isColony : ∀ e ∈ rX2_isColony, px_okB mX2_isColony e.1 e.2 = true := by decide +kernel
theorem dk_X2_tryReign : ∀ e ∈ rX2_tryReign, decode cX2_tryReign e.1 = .ok (e.2.1, px_ln e.2) := by decide +kernel
theorem bk_X2_tryReign : ∀ e ∈ rX2_tryReign, px_okB mX2_tryReign e.1 e.2 = true := by decide +kernel
theorem dk_X2_kindOfDraw : ∀ e ∈ rX2_kindOfDraw, decode cX2_kindOfDraw e.1 = .ok (e.2.1, px_ln e.2) := by decide +kernel
theorem bk_X2_kindOfDraw : ∀ e ∈ rX2_kindOfDraw, px_okB mX2_kindOfDraw e.1 e.2 = true := by decide +kernel
theorem dk_X2_cheapestPlan : ∀ e ∈ rX2_cheapestPlan, decode cX2_cheapestPlan e.1 = .ok (e.2.1, px_ln e.2) := by decide +kernel
theorem bk_X2_cheapestPlan : ∀ e ∈ rX2_cheapestPlan, px_okB mX2_cheapestPlan e.1 e.2 = true := by decide +kernel
theorem dk_X2_fitsPlan : ∀ e ∈ rX2_fitsPlan, decode cX2_fitsPlan e.1 = .ok (e.2.1, px_ln e.2) := by decide +kernel
theorem bk_X2_fitsPlan : ∀ e ∈ rX2_fitsPlan, px_okB mX2_fitsPlan e.1 e.2 = true := by decide +kernel
theorem dk_X2_tellPlan : ∀ e ∈ rX2_tellPlan, decode cX2_tellPlan e.1 = .ok (e.2.1, px_ln e.2) := by decide +kernel
theorem bk_X2_tellPlan : ∀ e ∈ rX2_tellPlan, px_okB mX2_tellPlan e.1 e.2 = true := by decide +kernel
theorem dk_X2_fewestToBar : ∀ e ∈ rX2_fewestToBar, decode cX2_fewestToBar e.1 = .ok (e.2.1, px_ln e.2) := by decide +kernel
theorem bk_X2_fewestToBar : ∀ e ∈ rX2_fewestToBar, px_okB mX2_fewestToBar e.1 e.2 = true := by decide +kernel
theorem dk_X2_fewestToGuard : ∀ e ∈ rX2_fewestToGuard, decode cX2_fewestToGuard e.1 = .ok (e.2.1, px_ln e.2) := by decide +kernel
theorem bk_X2_fewestToGuard : ∀ e ∈ rX2_fewestToGuard, px_okB mX2_fewestToGuard e.1 e.2 = true := by decide +kernel
theorem dk_X2_isFewer : ∀ e ∈ rX2_isFewer, decode cX2_isFewer e.1 = .ok (e.2.1, px_ln e.2) := by decide +kernel
theorem bk_X2_isFewer : ∀ e ∈ rX2_isFewer, px_okB mX2_isFewer e.1 e.2 = true := by decide +kernel
theorem dk_X2_tellFewest : ∀ e ∈ rX2_tellFewest, decode cX2_tellFewest e.1 = .ok (e.2.1, px_ln e.2) := by decide +kernel
theorem bk_X2_tellFewest : ∀ e ∈ rX2_tellFewest, px_okB mX2_tellFewest e.1 e.2 = true := by decide +kernel
theorem dk_X2_clearBySet : ∀ e ∈ rX2_clearBySet, decode cX2_clearBySet e.1 = .ok (e.2.1, px_ln e.2) := by decide +kernel
theorem bk_X2_clearBySet : ∀ e ∈ rX2_clearBySet, px_okB mX2_clearBySet e.1 e.2 = true := by decide +kernel
theorem dk_X2_findHidden : ∀ e ∈ rX2_findHidden, decode cX2_findHidden e.1 = .ok (e.2.1, px_ln e.2) := by decide +kernel
theorem bk_X2_findHidden : ∀ e ∈ rX2_findHidden, px_okB mX2_findHidden e.1 e.2 = true := by decide +kernel
theorem dk_X2_markAllWithMore : ∀ e ∈ rX2_markAllWithMore, decode cX2_markAllWithMore e.1 = .ok (e.2.1, px_ln e.2) := by decide +kernel
theorem bk_X2_markAllWithMore : ∀ e ∈ rX2_markAllWithMore, px_okB mX2_markAllWithMore e.1 e.2 = true := by decide +kernel
theorem dk_X2_keepThoseSeenAt : ∀ e ∈ rX2_keepThoseSeenAt, decode cX2_keepThoseSeenAt e.1 = .ok (e.2.1, px_ln e.2) := by decide +kernel
theorem bk_X2_keepThoseSeenAt : ∀ e ∈ rX2_keepThoseSeenAt, px_okB mX2_keepThoseSeenAt e.1 e.2 = true := by decide +kernel
theorem dk_X2_countHidden : ∀ e ∈ rX2_countHidden, decode cX2_countHidden e.1 = .ok (e.2.1, px_ln e.2) := by decide +kernel
theorem bk_X2_countHidden : ∀ e ∈ rX2_countHidden, px_okB mX2_countHidden e.1 e.2 = true := by decide +kernel
theorem dk_X2_partsInSomeHidden : ∀ e ∈ rX2_partsInSomeHidden, decode cX2_partsInSomeHidden e.1 = .ok (e.2.1, px_ln e.2) := by decide +kernel
theorem bk_X2_partsInSomeHidden : ∀ e ∈ rX2_partsInSomeHidden, px_okB mX2_partsInSomeHidden e.1 e.2 = true := by decide +kernel
theorem dk_X2_partsInAllHidden : ∀ e ∈ rX2_partsInAllHidden, decode cX2_partsInAllHidden e.1 = .ok (e.2.1, px_ln e.2) := by decide +kernel
theorem bk_X2_partsInAllHidden : ∀ e ∈ rX2_partsInAllHidden, px_okB mX2_partsInAllHidden e.1 e.2 = true := by decide +kernel
theorem dk_X2_mostLeftBy : ∀ e ∈ rX2_mostLeftBy, decode cX2_mostLeftBy e.1 = .ok (e.2.1, px_ln e.2) := by decide +kernel
theorem bk_X2_mostLeftBy : ∀ e ∈ rX2_mostLeftBy, px_okB mX2_mostLeftBy e.1 e.2 = true := by decide +kernel
theorem dk_X2_findWinningParts : ∀ e ∈ rX2_findWinningParts, decode cX2_findWinningParts e.1 = .ok (e.2.1, px_ln e.2) := by decide +kernel
theorem bk_X2_findWinningParts : ∀ e ∈ rX2_findWinningParts, px_okB mX2_findWinningParts e.1 e.2 = true := by decide +kernel
theorem dk_X2_winningPart : ∀ e ∈ rX2_winningPart, decode cX2_winningPart e.1 = .ok (e.2.1, px_ln e.2) := by decide +kernel
theorem bk_X2_winningPart : ∀ e ∈ rX2_winningPart, px_okB mX2_winningPart e.1 e.2 = true := by decide +kernel
theorem dk_X2_feverChances : ∀ e ∈ rX2_feverChances, decode cX2_feverChances e.1 = .ok (e.2.1, px_ln e.2) := by decide +kernel
theorem bk_X2_feverChances : ∀ e ∈ rX2_feverChances, px_okB mX2_feverChances e.1 e.2 = true := by decide +kernel
theorem dk_X2_feverHours : ∀ e ∈ rX2_feverHours, decode cX2_feverHours e.1 = .ok (e.2.1, px_ln e.2) := by decide +kernel
theorem bk_X2_feverHours : ∀ e ∈ rX2_feverHours, px_okB mX2_feverHours e.1 e.2 = true := by decide +kernel
theorem dk_X2_feverWeight : ∀ e ∈ rX2_feverWeight, decode cX2_feverWeight e.1 = .ok (e.2.1, px_ln e.2) := by decide +kernel
theorem bk_X2_feverWeight : ∀ e ∈ rX2_feverWeight, px_okB mX2_feverWeight e.1 e.2 = true := by decide +kernel
theorem dk_X2_choices : ∀ e ∈ rX2_choices, decode cX2_choices e.1 = .ok (e.2.1, px_ln e.2) := by decide +kernel
theorem bk_X2_choices : ∀ e ∈ rX2_choices, px_okB mX2_choices e.1 e.2 = true := by decide +kernel
theorem dk_X2_power : ∀ e ∈ rX2_power, decode cX2_power e.1 = .ok (e.2.1, px_ln e.2) := by decide +kernel
theorem bk_X2_power : ∀ e ∈ rX2_power, px_okB mX2_power e.1 e.2 = true := by decide +kernel
theorem dk_X2_commonDivisor : ∀ e ∈ rX2_commonDivisor, decode cX2_commonDivisor e.1 = .ok (e.2.1, px_ln e.2) := by decide +kernel
theorem bk_X2_commonDivisor : ∀ e ∈ rX2_commonDivisor, px_okB mX2_commonDivisor e.1 e.2 = true := by decide +kernel
theorem dk_X3_init : ∀ e ∈ rX3_init, decode cX3_init e.1 = .ok (e.2.1, px_ln e.2) := by decide +kernel
theorem bk_X3_init : ∀ e ∈ rX3_init, px_okB mX3_init e.1 e.2 = true := by decide +kernel
theorem dk_X3_in : ∀ e ∈ rX3_in, decode cX3_in e.1 = .ok (e.2.1, px_ln e.2) := by decide +kernel
theorem bk_X3_in : ∀ e ∈ rX3_in, px_okB mX3_in e.1 e.2 = true := by decide +kernel
theorem dk_X3_has : ∀ e ∈ rX3_has, decode cX3_has e.1 = .ok (e.2.1, px_ln e.2) := by decide +kernel
theorem bk_X3_has : ∀ e ∈ rX3_has, px_okB mX3_has e.1 e.2 = true := by decide +kernel
theorem dk_X3_bits : ∀ e ∈ rX3_bits, decode cX3_bits e.1 = .ok (e.2.1, px_ln e.2) := by decide +kernel
theorem bk_X3_bits : ∀ e ∈ rX3_bits, px_okB mX3_bits e.1 e.2 = true := by decide +kernel
theorem dk_X3_isOne : ∀ e ∈ rX3_isOne, decode cX3_isOne e.1 = .ok (e.2.1, px_ln e.2) := by decide +kernel
theorem bk_X3_isOne : ∀ e ∈ rX3_isOne, px_okB mX3_isOne e.1 e.2 = true := by decide +kernel
theorem dk_X3_above : ∀ e ∈ rX3_above, decode cX3_above e.1 = .ok (e.2.1, px_ln e.2) := by decide +kernel
theorem bk_X3_above : ∀ e ∈ rX3_above, px_okB mX3_above e.1 e.2 = true := by decide +kernel
theorem dk_X3_part : ∀ e ∈ rX3_part, decode cX3_part e.1 = .ok (e.2.1, px_ln e.2) := by decide +kernel
theorem bk_X3_part : ∀ e ∈ rX3_part, px_okB mX3_part e.1 e.2 = true := by decide +kernel
theorem dk_X3_needs : ∀ e ∈ rX3_needs, decode cX3_needs e.1 = .ok (e.2.1, px_ln e.2) := by decide +kernel
theorem bk_X3_needs : ∀ e ∈ rX3_needs, px_okB mX3_needs e.1 e.2 = true := by decide +kernel
theorem dk_X3_say : ∀ e ∈ rX3_say, decode cX3_say e.1 = .ok (e.2.1, px_ln e.2) := by decide +kernel
theorem bk_X3_say : ∀ e ∈ rX3_say, px_okB mX3_say e.1 e.2 = true := by decide +kernel
theorem dk_X3_wipe : ∀ e ∈ rX3_wipe, decode cX3_wipe e.1 = .ok (e.2.1, px_ln e.2) := by decide +kernel
theorem bk_X3_wipe : ∀ e ∈ rX3_wipe, px_okB mX3_wipe e.1 e.2 = true := by decide +kernel
theorem dk_X3_isPart : ∀ e ∈ rX3_isPart, decode cX3_isPart e.1 = .ok (e.2.1, px_ln e.2) := by decide +kernel
theorem bk_X3_isPart : ∀ e ∈ rX3_isPart, px_okB mX3_isPart e.1 e.2 = true := by decide +kernel
theorem dk_X3_faultOf : ∀ e ∈ rX3_faultOf, decode cX3_faultOf e.1 = .ok (e.2.1, px_ln e.2) := by decide +kernel
theorem bk_X3_faultOf : ∀ e ∈ rX3_faultOf, px_okB mX3_faultOf e.1 e.2 = true := by decide +kernel
theorem dk_X3_fault : ∀ e ∈ rX3_fault, decode cX3_fault e.1 = .ok (e.2.1, px_ln e.2) := by decide +kernel
theorem bk_X3_fault : ∀ e ∈ rX3_fault, px_okB mX3_fault e.1 e.2 = true := by decide +kernel
theorem dk_X3_asNow : ∀ e ∈ rX3_asNow, decode cX3_asNow e.1 = .ok (e.2.1, px_ln e.2) := by decide +kernel
theorem bk_X3_asNow : ∀ e ∈ rX3_asNow, px_okB mX3_asNow e.1 e.2 = true := by decide +kernel
theorem dk_X3_doneNow : ∀ e ∈ rX3_doneNow, decode cX3_doneNow e.1 = .ok (e.2.1, px_ln e.2) := by decide +kernel
theorem bk_X3_doneNow : ∀ e ∈ rX3_doneNow, px_okB mX3_doneNow e.1 e.2 = true := by decide +kernel
theorem dk_X3_powers : ∀ e ∈ rX3_powers, decode cX3_powers e.1 = .ok (e.2.1, px_ln e.2) := by decide +kernel
theorem bk_X3_powers : ∀ e ∈ rX3_powers, px_okB mX3_powers e.1 e.2 = true := by decide +kernel
theorem dk_X3_givesAll : ∀ e ∈ rX3_givesAll, decode cX3_givesAll e.1 = .ok (e.2.1, px_ln e.2) := by decide +kernel
theorem bk_X3_givesAll : ∀ e ∈ rX3_givesAll, px_okB mX3_givesAll e.1 e.2 = true := by decide +kernel
theorem dk_X3_powersNow : ∀ e ∈ rX3_powersNow, decode cX3_powersNow e.1 = .ok (e.2.1, px_ln e.2) := by decide +kernel
theorem bk_X3_powersNow : ∀ e ∈ rX3_powersNow, px_okB mX3_powersNow e.1 e.2 = true := by decide +kernel
theorem dk_X3_whyNoHour : ∀ e ∈ rX3_whyNoHour, decode cX3_whyNoHour e.1 = .ok (e.2.1, px_ln e.2) := by decide +kernel
theorem bk_X3_whyNoHour : ∀ e ∈ rX3_whyNoHour, px_okB mX3_whyNoHour e.1 e.2 = true := by decide +kernel
theorem dk_X3_paint : ∀ e ∈ rX3_paint, decode cX3_paint e.1 = .ok (e.2.1, px_ln e.2) := by decide +kernel
theorem bk_X3_paint : ∀ e ∈ rX3_paint, px_okB mX3_paint e.1 e.2 = true := by decide +kernel
theorem dk_X3_over : ∀ e ∈ rX3_over, decode cX3_over e.1 = .ok (e.2.1, px_ln e.2) := by decide +kernel
theorem bk_X3_over : ∀ e ∈ rX3_over, px_okB mX3_over e.1 e.2 = true := by decide +kernel
theorem dk_X3_whyNoAct : ∀ e ∈ rX3_whyNoAct, decode cX3_whyNoAct e.1 = .ok (e.2.1, px_ln e.2) := by decide +kernel
theorem bk_X3_whyNoAct : ∀ e ∈ rX3_whyNoAct, px_okB mX3_whyNoAct e.1 e.2 = true := by decide +kernel
theorem dk_X3_make : ∀ e ∈ rX3_make, decode cX3_make e.1 = .ok (e.2.1, px_ln e.2) := by decide +kernel
theorem bk_X3_make : ∀ e ∈ rX3_make, px_okB mX3_make e.1 e.2 = true := by decide +kernel
theorem dk_X3_goReign : ∀ e ∈ rX3_goReign, decode cX3_goReign e.1 = .ok (e.2.1, px_ln e.2) := by decide +kernel
theorem bk_X3_goReign : ∀ e ∈ rX3_goReign, px_okB mX3_goReign e.1 e.2 = true := by decide +kernel
theorem dk_X3_judge : ∀ e ∈ rX3_judge, decode cX3_judge e.1 = .ok (e.2.1, px_ln e.2) := by decide +kernel
theorem bk_X3_judge : ∀ e ∈ rX3_judge, px_okB mX3_judge e.1 e.2 = true := by decide +kernel
theorem dk_X3_barOfReign : ∀ e ∈ rX3_barOfReign, decode cX3_barOfReign e.1 = .ok (e.2.1, px_ln e.2) := by decide +kernel
theorem bk_X3_barOfReign : ∀ e ∈ rX3_barOfReign, px_okB mX3_barOfReign e.1 e.2 = true := by decide +kernel
theorem dk_X3_done : ∀ e ∈ rX3_done, decode cX3_done e.1 = .ok (e.2.1, px_ln e.2) := by decide +kernel
theorem bk_X3_done : ∀ e ∈ rX3_done, px_okB mX3_done e.1 e.2 = true := by decide +kernel
theorem dk_X3_stateNow : ∀ e ∈ rX3_stateNow, decode cX3_stateNow e.1 = .ok (e.2.1, px_ln e.2) := by decide +kernel
theorem bk_X3_stateNow : ∀ e ∈ rX3_stateNow, px_okB mX3_stateNow e.1 e.2 = true := by decide +kernel
theorem dk_X3_state : ∀ e ∈ rX3_state, decode cX3_state e.1 = .ok (e.2.1, px_ln e.2) := by decide +kernel
theorem bk_X3_state : ∀ e ∈ rX3_state, px_okB mX3_state e.1 e.2 = true := by decide +kernel
theorem dk_X3_behind : ∀ e ∈ rX3_behind, decode cX3_behind e.1 = .ok (e.2.1, px_ln e.2) := by decide +kernel
theorem bk_X3_behind : ∀ e ∈ rX3_behind, px_okB mX3_behind e.1 e.2 = true := by decide +kernel
theorem dk_X3_can : ∀ e ∈ rX3_can, decode cX3_can e.1 = .ok (e.2.1, px_ln e.2) := by decide +kernel
theorem bk_X3_can : ∀ e ∈ rX3_can, px_okB mX3_can e.1 e.2 = true := by decide +kernel
theorem dk_X3_isClosed : ∀ e ∈ rX3_isClosed, decode cX3_isClosed e.1 = .ok (e.2.1, px_ln e.2) := by decide +kernel
theorem bk_X3_isClosed : ∀ e ∈ rX3_isClosed, px_okB mX3_isClosed e.1 e.2 = true := by decide +kernel
theorem dk_X3_costOf : ∀ e ∈ rX3_costOf, decode cX3_costOf e.1 = .ok (e.2.1, px_ln e.2) := by decide +kernel
theorem bk_X3_costOf : ∀ e ∈ rX3_costOf, px_okB mX3_costOf e.1 e.2 = true := by decide +kernel
theorem dk_X3_cheapest : ∀ e ∈ rX3_cheapest, decode cX3_cheapest e.1 = .ok (e.2.1, px_ln e.2) := by decide +kernel
theorem bk_X3_cheapest : ∀ e ∈ rX3_cheapest, px_okB mX3_cheapest e.1 e.2 = true := by decide +kernel
theorem dk_X3_lacks : ∀ e ∈ rX3_lacks, decode cX3_lacks e.1 = .ok (e.2.1, px_ln e.2) := by decide +kernel
theorem bk_X3_lacks : ∀ e ∈ rX3_lacks, px_okB mX3_lacks e.1 e.2 = true := by decide +kernel
theorem dk_X3_plan : ∀ e ∈ rX3_plan, decode cX3_plan e.1 = .ok (e.2.1, px_ln e.2) := by decide +kernel
theorem bk_X3_plan : ∀ e ∈ rX3_plan, px_okB mX3_plan e.1 e.2 = true := by decide +kernel
theorem dk_X3_orders : ∀ e ∈ rX3_orders, decode cX3_orders e.1 = .ok (e.2.1, px_ln e.2) := by decide +kernel
theorem bk_X3_orders : ∀ e ∈ rX3_orders, px_okB mX3_orders e.1 e.2 = true := by decide +kernel
theorem dk_X3_begun : ∀ e ∈ rX3_begun, decode cX3_begun e.1 = .ok (e.2.1, px_ln e.2) := by decide +kernel
theorem bk_X3_begun : ∀ e ∈ rX3_begun, px_okB mX3_begun e.1 e.2 = true := by decide +kernel
theorem dk_X3_bar : ∀ e ∈ rX3_bar, decode cX3_bar e.1 = .ok (e.2.1, px_ln e.2) := by decide +kernel
theorem bk_X3_bar : ∀ e ∈ rX3_bar, px_okB mX3_bar e.1 e.2 = true := by decide +kernel
theorem dk_X3_falls : ∀ e ∈ rX3_falls, decode cX3_falls e.1 = .ok (e.2.1, px_ln e.2) := by decide +kernel
theorem bk_X3_falls : ∀ e ∈ rX3_falls, px_okB mX3_falls e.1 e.2 = true := by decide +kernel
theorem dk_X3_aloneFor : ∀ e ∈ rX3_aloneFor, decode cX3_aloneFor e.1 = .ok (e.2.1, px_ln e.2) := by decide +kernel
theorem bk_X3_aloneFor : ∀ e ∈ rX3_aloneFor, px_okB mX3_aloneFor e.1 e.2 = true := by decide +kernel
theorem dk_X3_alone : ∀ e ∈ rX3_alone, decode cX3_alone e.1 = .ok (e.2.1, px_ln e.2) := by decide +kernel
theorem bk_X3_alone : ∀ e ∈ rX3_alone, px_okB mX3_alone e.1 e.2 = true := by decide +kernel
theorem dk_X3_guard : ∀ e ∈ rX3_guard, decode cX3_guard e.1 = .ok (e.2.1, px_ln e.2) := by decide +kernel
theorem bk_X3_guard : ∀ e ∈ rX3_guard, px_okB mX3_guard e.1 e.2 = true := by decide +kernel
theorem dk_X3_seen : ∀ e ∈ rX3_seen, decode cX3_seen e.1 = .ok (e.2.1, px_ln e.2) := by decide +kernel
theorem bk_X3_seen : ∀ e ∈ rX3_seen, px_okB mX3_seen e.1 e.2 = true := by decide +kernel
theorem dk_X3_forget : ∀ e ∈ rX3_forget, decode cX3_forget e.1 = .ok (e.2.1, px_ln e.2) := by decide +kernel
theorem bk_X3_forget : ∀ e ∈ rX3_forget, px_okB mX3_forget e.1 e.2 = true := by decide +kernel
theorem dk_X3_layHidden : ∀ e ∈ rX3_layHidden, decode cX3_layHidden e.1 = .ok (e.2.1, px_ln e.2) := by decide +kernel
theorem bk_X3_layHidden : ∀ e ∈ rX3_layHidden, px_okB mX3_layHidden e.1 e.2 = true := by decide +kernel
theorem dk_X3_layStep : ∀ e ∈ rX3_layStep, decode cX3_layStep e.1 = .ok (e.2.1, px_ln e.2) := by decide +kernel
theorem bk_X3_layStep : ∀ e ∈ rX3_layStep, px_okB mX3_layStep e.1 e.2 = true := by decide +kernel
theorem dk_X3_hidden : ∀ e ∈ rX3_hidden, decode cX3_hidden e.1 = .ok (e.2.1, px_ln e.2) := by decide +kernel
theorem bk_X3_hidden : ∀ e ∈ rX3_hidden, px_okB mX3_hidden e.1 e.2 = true := by decide +kernel
theorem dk_X3_tries : ∀ e ∈ rX3_tries, decode cX3_tries e.1 = .ok (e.2.1, px_ln e.2) := by decide +kernel
theorem bk_X3_tries : ∀ e ∈ rX3_tries, px_okB mX3_tries e.1 e.2 = true := by decide +kernel
theorem dk_X3_isColony : ∀ e ∈ rX3_isColony, decode cX3_isColony e.1 = .ok (e.2.1, px_ln e.2) := by decide +kernel
theorem bk_X3_isColony : ∀ e ∈ rX3_isColony, px_okB mX3_isColony e.1 e.2 = true := by decide +kernel
theorem dk_X3_send : ∀ e ∈ rX3_send, decode cX3_send e.1 = .ok (e.2.1, px_ln e.2) := by decide +kernel
theorem bk_X3_send : ∀ e ∈ rX3_send, px_okB mX3_send e.1 e.2 = true := by decide +kernel
theorem dk_X3_madeBy : ∀ e ∈ rX3_madeBy, decode cX3_madeBy e.1 = .ok (e.2.1, px_ln e.2) := by decide +kernel
theorem bk_X3_madeBy : ∀ e ∈ rX3_madeBy, px_okB mX3_madeBy e.1 e.2 = true := by decide +kernel
theorem dk_X3_makes : ∀ e ∈ rX3_makes, decode cX3_makes e.1 = .ok (e.2.1, px_ln e.2) := by decide +kernel
theorem bk_X3_makes : ∀ e ∈ rX3_makes, px_okB mX3_makes e.1 e.2 = true := by decide +kernel
theorem dk_X3_quarrel : ∀ e ∈ rX3_quarrel, decode cX3_quarrel e.1 = .ok (e.2.1, px_ln e.2) := by decide +kernel
theorem bk_X3_quarrel : ∀ e ∈ rX3_quarrel, px_okB mX3_quarrel e.1 e.2 = true := by decide +kernel
theorem dk_X3_sent : ∀ e ∈ rX3_sent, decode cX3_sent e.1 = .ok (e.2.1, px_ln e.2) := by decide +kernel
theorem bk_X3_sent : ∀ e ∈ rX3_sent, px_okB mX3_sent e.1 e.2 = true := by decide +kernel
theorem dk_X3_turns : ∀ e ∈ rX3_turns, decode cX3_turns e.1 = .ok (e.2.1, px_ln e.2) := by decide +kernel
theorem bk_X3_turns : ∀ e ∈ rX3_turns, px_okB mX3_turns e.1 e.2 = true := by decide +kernel
theorem dk_X3_fever : ∀ e ∈ rX3_fever, decode cX3_fever e.1 = .ok (e.2.1, px_ln e.2) := by decide +kernel
theorem bk_X3_fever : ∀ e ∈ rX3_fever, px_okB mX3_fever e.1 e.2 = true := by decide +kernel
theorem dk_X3_year : ∀ e ∈ rX3_year, decode cX3_year e.1 = .ok (e.2.1, px_ln e.2) := by decide +kernel
theorem bk_X3_year : ∀ e ∈ rX3_year, px_okB mX3_year e.1 e.2 = true := by decide +kernel
theorem dk_X3_image : ∀ e ∈ rX3_image, decode cX3_image e.1 = .ok (e.2.1, px_ln e.2) := by decide +kernel
theorem bk_X3_image : ∀ e ∈ rX3_image, px_okB mX3_image e.1 e.2 = true := by decide +kernel
theorem dk_X3_restore : ∀ e ∈ rX3_restore, decode cX3_restore e.1 = .ok (e.2.1, px_ln e.2) := by decide +kernel
theorem bk_X3_restore : ∀ e ∈ rX3_restore, px_okB mX3_restore e.1 e.2 = true := by decide +kernel
theorem dk_X3_told : ∀ e ∈ rX3_told, decode cX3_told e.1 = .ok (e.2.1, px_ln e.2) := by decide +kernel
theorem bk_X3_told : ∀ e ∈ rX3_told, px_okB mX3_told e.1 e.2 = true := by decide +kernel
theorem dk_J6_bitCount_0f7a4 : ∀ e ∈ rJ6_bitCount_0f7a4, decode cJ6_bitCount_0f7a4 e.1 = .ok (e.2.1, px_ln e.2) := by decide +kernel
theorem bk_J6_bitCount_0f7a4 : ∀ e ∈ rJ6_bitCount_0f7a4, px_okB mJ6_bitCount_0f7a4 e.1 e.2 = true := by decide +kernel
