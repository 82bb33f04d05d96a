def px_hasK (K : List (Nat × Nat × Value × Nat × Nat)) (r : List (Nat × px_I)) : Bool := r.all fun e => match px_key e.2 with
  | none => true
  | some q => decide (q ∈ K)
theorem px_hasK_ok {K : List (Nat × Nat × Value × Nat × Nat)} {r : List (Nat × px_I)} {own : Nat} (h : px_hasK K r = true) (hk : ∀ q ∈ K, px_okK px_T own q) : ∀ e ∈ r, ∀ q, px_key e.2 = some q → px_okK px_T own q := by
  intro e he q hq
  have h1 := List.all_eq_true.mp h e he
  simp only [hq] at h1
  exact hk q (of_decide_eq_true h1)
theorem o3_X0_init : px_ok3 px_T mX0_init := ⟨dk_X0_init, bk_X0_init, px_hasK_ok (own := 0) (K := px_K0) (by decide +kernel) kl_0⟩
theorem om_X0_init : px_okM px_T mX0_init := ⟨o3_X0_init, rfl, by decide +kernel, w_83, w_3, ⟨by decide +kernel, by decide +kernel⟩, fun _ => rfl, rfl⟩
theorem o3_X0_write : px_ok3 px_T mX0_write := ⟨dk_X0_write, bk_X0_write, px_hasK_ok (own := 0) (K := px_K0) (by decide +kernel) kl_0⟩
theorem om_X0_write : px_okM px_T mX0_write := ⟨o3_X0_write, rfl, by decide +kernel, w_157, w_3, ⟨by decide +kernel, by decide +kernel⟩, fun h => (by cases h), rfl⟩
theorem o3_X0_signAt : px_ok3 px_T mX0_signAt := ⟨dk_X0_signAt, bk_X0_signAt, px_hasK_ok (own := 0) (K := px_K0) (by decide +kernel) kl_0⟩
theorem om_X0_signAt : px_okM px_T mX0_signAt := ⟨o3_X0_signAt, rfl, by decide +kernel, w_173, w_3, ⟨by decide +kernel, by decide +kernel⟩, fun h => (by cases h), rfl⟩
theorem o3_X0_kindOf : px_ok3 px_T mX0_kindOf := ⟨dk_X0_kindOf, bk_X0_kindOf, px_hasK_ok (own := 0) (K := px_K0) (by decide +kernel) kl_0⟩
theorem om_X0_kindOf : px_okM px_T mX0_kindOf := ⟨o3_X0_kindOf, rfl, by decide +kernel, w_176, w_3, ⟨by decide +kernel, by decide +kernel⟩, fun h => (by cases h), rfl⟩
theorem o3_X0_numberOf : px_ok3 px_T mX0_numberOf := ⟨dk_X0_numberOf, bk_X0_numberOf, px_hasK_ok (own := 0) (K := px_K0) (by decide +kernel) kl_0⟩
theorem om_X0_numberOf : px_okM px_T mX0_numberOf := ⟨o3_X0_numberOf, rfl, by decide +kernel, w_199, w_3, ⟨by decide +kernel, by decide +kernel⟩, fun h => (by cases h), rfl⟩
theorem o3_X0_firstFault : px_ok3 px_T mX0_firstFault := ⟨dk_X0_firstFault, bk_X0_firstFault, px_hasK_ok (own := 0) (K := px_K0) (by decide +kernel) kl_0⟩
theorem om_X0_firstFault : px_okM px_T mX0_firstFault := ⟨o3_X0_firstFault, rfl, by decide +kernel, w_169, w_3, ⟨by decide +kernel, by decide +kernel⟩, fun h => (by cases h), rfl⟩
theorem o3_X1_init : px_ok3 px_T mX1_init := ⟨dk_X1_init, bk_X1_init, px_hasK_ok (own := 1) (K := px_K1) (by decide +kernel) kl_1⟩
theorem om_X1_init : px_okM px_T mX1_init := ⟨o3_X1_init, rfl, by decide +kernel, w_20, w_2, ⟨by decide +kernel, by decide +kernel⟩, fun _ => rfl, rfl⟩
theorem o3_X1_copyFrom : px_ok3 px_T mX1_copyFrom := ⟨dk_X1_copyFrom, bk_X1_copyFrom, px_hasK_ok (own := 1) (K := px_K1) (by decide +kernel) kl_1⟩
theorem om_X1_copyFrom : px_okM px_T mX1_copyFrom := ⟨o3_X1_copyFrom, rfl, by decide +kernel, w_191, w_2, ⟨by decide +kernel, by decide +kernel⟩, fun h => (by cases h), rfl⟩
theorem o3_X1_doneParts : px_ok3 px_T mX1_doneParts := ⟨dk_X1_doneParts, bk_X1_doneParts, px_hasK_ok (own := 1) (K := px_K1) (by decide +kernel) kl_1⟩
theorem om_X1_doneParts : px_okM px_T mX1_doneParts := ⟨o3_X1_doneParts, rfl, by decide +kernel, w_215, w_2, ⟨by decide +kernel, by decide +kernel⟩, fun h => (by cases h), rfl⟩
theorem o3_X1_paintedParts : px_ok3 px_T mX1_paintedParts := ⟨dk_X1_paintedParts, bk_X1_paintedParts, px_hasK_ok (own := 1) (K := px_K1) (by decide +kernel) kl_1⟩
theorem om_X1_paintedParts : px_okM px_T mX1_paintedParts := ⟨o3_X1_paintedParts, rfl, by decide +kernel, w_339, w_2, ⟨by decide +kernel, by decide +kernel⟩, fun h => (by cases h), rfl⟩
theorem o3_X1_powersOf : px_ok3 px_T mX1_powersOf := ⟨dk_X1_powersOf, bk_X1_powersOf, px_hasK_ok (own := 1) (K := px_K1) (by decide +kernel) kl_1⟩
theorem om_X1_powersOf : px_okM px_T mX1_powersOf := ⟨o3_X1_powersOf, rfl, by decide +kernel, w_227, w_2, ⟨by decide +kernel, by decide +kernel⟩, fun h => (by cases h), rfl⟩
theorem o3_X1_actsWithin : px_ok3 px_T mX1_actsWithin := ⟨dk_X1_actsWithin, bk_X1_actsWithin, px_hasK_ok (own := 1) (K := px_K1) (by decide +kernel) kl_1⟩
theorem om_X1_actsWithin : px_okM px_T mX1_actsWithin := ⟨o3_X1_actsWithin, rfl, by decide +kernel, w_241, w_2, ⟨by decide +kernel, by decide +kernel⟩, fun h => (by cases h), rfl⟩
theorem o3_X1_givesAll : px_ok3 px_T mX1_givesAll := ⟨dk_X1_givesAll, bk_X1_givesAll, px_hasK_ok (own := 1) (K := px_K1) (by decide +kernel) kl_1⟩
theorem om_X1_givesAll : px_okM px_T mX1_givesAll := ⟨o3_X1_givesAll, rfl, by decide +kernel, w_323, w_2, ⟨by decide +kernel, by decide +kernel⟩, fun h => (by cases h), rfl⟩
theorem o3_X1_partsThatGive : px_ok3 px_T mX1_partsThatGive := ⟨dk_X1_partsThatGive, bk_X1_partsThatGive, px_hasK_ok (own := 1) (K := px_K1) (by decide +kernel) kl_1⟩
theorem om_X1_partsThatGive : px_okM px_T mX1_partsThatGive := ⟨o3_X1_partsThatGive, rfl, by decide +kernel, w_347, w_2, ⟨by decide +kernel, by decide +kernel⟩, fun h => (by cases h), rfl⟩
theorem o3_X1_isPicture : px_ok3 px_T mX1_isPicture := ⟨dk_X1_isPicture, bk_X1_isPicture, px_hasK_ok (own := 1) (K := px_K1) (by decide +kernel) kl_1⟩
theorem om_X1_isPicture : px_okM px_T mX1_isPicture := ⟨o3_X1_isPicture, rfl, by decide +kernel, w_281, w_2, ⟨by decide +kernel, by decide +kernel⟩, fun h => (by cases h), rfl⟩
theorem o3_X1_canFinish : px_ok3 px_T mX1_canFinish := ⟨dk_X1_canFinish, bk_X1_canFinish, px_hasK_ok (own := 1) (K := px_K1) (by decide +kernel) kl_1⟩
theorem om_X1_canFinish : px_okM px_T mX1_canFinish := ⟨o3_X1_canFinish, rfl, by decide +kernel, w_311, w_2, ⟨by decide +kernel, by decide +kernel⟩, fun h => (by cases h), rfl⟩
theorem o3_X1_hoursToPaint : px_ok3 px_T mX1_hoursToPaint := ⟨dk_X1_hoursToPaint, bk_X1_hoursToPaint, px_hasK_ok (own := 1) (K := px_K1) (by decide +kernel) kl_1⟩
theorem om_X1_hoursToPaint : px_okM px_T mX1_hoursToPaint := ⟨o3_X1_hoursToPaint, rfl, by decide +kernel, w_291, w_2, ⟨by decide +kernel, by decide +kernel⟩, fun h => (by cases h), rfl⟩
theorem o3_X1_withAllAbove : px_ok3 px_T mX1_withAllAbove := ⟨dk_X1_withAllAbove, bk_X1_withAllAbove, px_hasK_ok (own := 1) (K := px_K1) (by decide +kernel) kl_1⟩
theorem om_X1_withAllAbove : px_okM px_T mX1_withAllAbove := ⟨o3_X1_withAllAbove, rfl, by decide +kernel, w_137, w_2, ⟨by decide +kernel, by decide +kernel⟩, fun h => (by cases h), rfl⟩
theorem o3_X1_fallingWith : px_ok3 px_T mX1_fallingWith := ⟨dk_X1_fallingWith, bk_X1_fallingWith, px_hasK_ok (own := 1) (K := px_K1) (by decide +kernel) kl_1⟩
theorem om_X1_fallingWith : px_okM px_T mX1_fallingWith := ⟨o3_X1_fallingWith, rfl, by decide +kernel, w_141, w_2, ⟨by decide +kernel, by decide +kernel⟩, fun h => (by cases h), rfl⟩
theorem o3_X1_powersThereAre : px_ok3 px_T mX1_powersThereAre := ⟨dk_X1_powersThereAre, bk_X1_powersThereAre, px_hasK_ok (own := 1) (K := px_K1) (by decide +kernel) kl_1⟩
theorem om_X1_powersThereAre : px_okM px_T mX1_powersThereAre := ⟨o3_X1_powersThereAre, rfl, by decide +kernel, w_223, w_2, ⟨by decide +kernel, by decide +kernel⟩, fun h => (by cases h), rfl⟩
theorem o3_X1_whyNot : px_ok3 px_T mX1_whyNot := ⟨dk_X1_whyNot, bk_X1_whyNot, px_hasK_ok (own := 1) (K := px_K1) (by decide +kernel) kl_1⟩
theorem om_X1_whyNot : px_okM px_T mX1_whyNot := ⟨o3_X1_whyNot, rfl, by decide +kernel, w_207, w_2, ⟨by decide +kernel, by decide +kernel⟩, fun h => (by cases h), rfl⟩
theorem o3_X1_whyNotPaint : px_ok3 px_T mX1_whyNotPaint := ⟨dk_X1_whyNotPaint, bk_X1_whyNotPaint, px_hasK_ok (own := 1) (K := px_K1) (by decide +kernel) kl_1⟩
theorem om_X1_whyNotPaint : px_okM px_T mX1_whyNotPaint := ⟨o3_X1_whyNotPaint, rfl, by decide +kernel, w_211, w_2, ⟨by decide +kernel, by decide +kernel⟩, fun h => (by cases h), rfl⟩
theorem o3_X1_whyNotMake : px_ok3 px_T mX1_whyNotMake := ⟨dk_X1_whyNotMake, bk_X1_whyNotMake, px_hasK_ok (own := 1) (K := px_K1) (by decide +kernel) kl_1⟩
theorem om_X1_whyNotMake : px_okM px_T mX1_whyNotMake := ⟨o3_X1_whyNotMake, rfl, by decide +kernel, w_219, w_2, ⟨by decide +kernel, by decide +kernel⟩, fun h => (by cases h), rfl⟩
theorem o3_X1_takeIfItCanBe : px_ok3 px_T mX1_takeIfItCanBe := ⟨dk_X1_takeIfItCanBe, bk_X1_takeIfItCanBe, px_hasK_ok (own := 1) (K := px_K1) (by decide +kernel) kl_1⟩
theorem om_X1_takeIfItCanBe : px_okM px_T mX1_takeIfItCanBe := ⟨o3_X1_takeIfItCanBe, rfl, by decide +kernel, w_203, w_2, ⟨by decide +kernel, by decide +kernel⟩, fun h => (by cases h), rfl⟩
theorem o3_X1_paint : px_ok3 px_T mX1_paint := ⟨dk_X1_paint, bk_X1_paint, px_hasK_ok (own := 1) (K := px_K1) (by decide +kernel) kl_1⟩
theorem om_X1_paint : px_okM px_T mX1_paint := ⟨o3_X1_paint, rfl, by decide +kernel, w_231, w_2, ⟨by decide +kernel, by decide +kernel⟩, fun h => (by cases h), rfl⟩
theorem o3_X1_unpaint : px_ok3 px_T mX1_unpaint := ⟨dk_X1_unpaint, bk_X1_unpaint, px_hasK_ok (own := 1) (K := px_K1) (by decide +kernel) kl_1⟩
theorem om_X1_unpaint : px_okM px_T mX1_unpaint := ⟨o3_X1_unpaint, rfl, by decide +kernel, w_145, w_2, ⟨by decide +kernel, by decide +kernel⟩, fun h => (by cases h), rfl⟩
theorem o3_X1_repeal : px_ok3 px_T mX1_repeal := ⟨dk_X1_repeal, bk_X1_repeal, px_hasK_ok (own := 1) (K := px_K1) (by decide +kernel) kl_1⟩
theorem om_X1_repeal : px_okM px_T mX1_repeal := ⟨o3_X1_repeal, rfl, by decide +kernel, w_237, w_2, ⟨by decide +kernel, by decide +kernel⟩, fun h => (by cases h), rfl⟩
theorem o3_X1_paintLeast : px_ok3 px_T mX1_paintLeast := ⟨dk_X1_paintLeast, bk_X1_paintLeast, px_hasK_ok (own := 1) (K := px_K1) (by decide +kernel) kl_1⟩
theorem om_X1_paintLeast : px_okM px_T mX1_paintLeast := ⟨o3_X1_paintLeast, rfl, by decide +kernel, w_468, w_2, ⟨by decide +kernel, by decide +kernel⟩, fun h => (by cases h), rfl⟩
theorem o3_X1_addSight : px_ok3 px_T mX1_addSight := ⟨dk_X1_addSight, bk_X1_addSight, px_hasK_ok (own := 1) (K := px_K1) (by decide +kernel) kl_1⟩
theorem om_X1_addSight : px_okM px_T mX1_addSight := ⟨o3_X1_addSight, rfl, by decide +kernel, w_363, w_2, ⟨by decide +kernel, by decide +kernel⟩, fun h => (by cases h), rfl⟩
theorem o3_X1_nextSightStep : px_ok3 px_T mX1_nextSightStep := ⟨dk_X1_nextSightStep, bk_X1_nextSightStep, px_hasK_ok (own := 1) (K := px_K1) (by decide +kernel) kl_1⟩
theorem om_X1_nextSightStep : px_okM px_T mX1_nextSightStep := ⟨o3_X1_nextSightStep, rfl, by decide +kernel, w_379, w_2, ⟨by decide +kernel, by decide +kernel⟩, fun h => (by cases h), rfl⟩
theorem o3_X1_fitsSightsAt : px_ok3 px_T mX1_fitsSightsAt := ⟨dk_X1_fitsSightsAt, bk_X1_fitsSightsAt, px_hasK_ok (own := 1) (K := px_K1) (by decide +kernel) kl_1⟩
theorem om_X1_fitsSightsAt : px_okM px_T mX1_fitsSightsAt := ⟨o3_X1_fitsSightsAt, rfl, by decide +kernel, w_391, w_2, ⟨by decide +kernel, by decide +kernel⟩, fun h => (by cases h), rfl⟩
theorem o3_X1_tellState : px_ok3 px_T mX1_tellState := ⟨dk_X1_tellState, bk_X1_tellState, px_hasK_ok (own := 1) (K := px_K1) (by decide +kernel) kl_1⟩
theorem om_X1_tellState : px_okM px_T mX1_tellState := ⟨o3_X1_tellState, rfl, by decide +kernel, w_259, w_2, ⟨by decide +kernel, by decide +kernel⟩, fun h => (by cases h), rfl⟩
theorem o3_X1_tellPart : px_ok3 px_T mX1_tellPart := ⟨dk_X1_tellPart, bk_X1_tellPart, px_hasK_ok (own := 1) (K := px_K1) (by decide +kernel) kl_1⟩
theorem om_X1_tellPart : px_okM px_T mX1_tellPart := ⟨o3_X1_tellPart, rfl, by decide +kernel, w_499, w_2, ⟨by decide +kernel, by decide +kernel⟩, fun h => (by cases h), rfl⟩
theorem o3_X2_init : px_ok3 px_T mX2_init := ⟨dk_X2_init, bk_X2_init, px_hasK_ok (own := 2) (K := px_K2) (by decide +kernel) kl_2⟩
theorem om_X2_init : px_okM px_T mX2_init := ⟨o3_X2_init, rfl, by decide +kernel, w_12, w_1, ⟨by decide +kernel, by decide +kernel⟩, fun _ => rfl, rfl⟩
theorem o3_X2_part : px_ok3 px_T mX2_part := ⟨dk_X2_part, bk_X2_part, px_hasK_ok (own := 2) (K := px_K2) (by decide +kernel) kl_2⟩
theorem om_X2_part : px_okM px_T mX2_part := ⟨o3_X2_part, rfl, by decide +kernel, w_127, w_1, ⟨by decide +kernel, by decide +kernel⟩, fun h => (by cases h), rfl⟩
theorem o3_X2_needs : px_ok3 px_T mX2_needs := ⟨dk_X2_needs, bk_X2_needs, px_hasK_ok (own := 2) (K := px_K2) (by decide +kernel) kl_2⟩
theorem om_X2_needs : px_okM px_T mX2_needs := ⟨o3_X2_needs, rfl, by decide +kernel, w_149, w_1, ⟨by decide +kernel, by decide +kernel⟩, fun h => (by cases h), rfl⟩
theorem o3_X2_say : px_ok3 px_T mX2_say := ⟨dk_X2_say, bk_X2_say, px_hasK_ok (own := 2) (K := px_K2) (by decide +kernel) kl_2⟩
theorem om_X2_say : px_okM px_T mX2_say := ⟨o3_X2_say, rfl, by decide +kernel, w_153, w_1, ⟨by decide +kernel, by decide +kernel⟩, fun h => (by cases h), rfl⟩
theorem o3_X2_wipe : px_ok3 px_T mX2_wipe := ⟨dk_X2_wipe, bk_X2_wipe, px_hasK_ok (own := 2) (K := px_K2) (by decide +kernel) kl_2⟩
theorem om_X2_wipe : px_okM px_T mX2_wipe := ⟨o3_X2_wipe, rfl, by decide +kernel, w_161, w_1, ⟨by decide +kernel, by decide +kernel⟩, fun h => (by cases h), rfl⟩
theorem o3_X2_fault : px_ok3 px_T mX2_fault := ⟨dk_X2_fault, bk_X2_fault, px_hasK_ok (own := 2) (K := px_K2) (by decide +kernel) kl_2⟩
theorem om_X2_fault : px_okM px_T mX2_fault := ⟨o3_X2_fault, rfl, by decide +kernel, w_165, w_1, ⟨by decide +kernel, by decide +kernel⟩, fun h => (by cases h), rfl⟩
theorem o3_X2_judge : px_ok3 px_T mX2_judge := ⟨dk_X2_judge, bk_X2_judge, px_hasK_ok (own := 2) (K := px_K2) (by decide +kernel) kl_2⟩
theorem om_X2_judge : px_okM px_T mX2_judge := ⟨o3_X2_judge, rfl, by decide +kernel, w_180, w_1, ⟨by decide +kernel, by decide +kernel⟩, fun h => (by cases h), rfl⟩
theorem o3_X2_done : px_ok3 px_T mX2_done := ⟨dk_X2_done, bk_X2_done, px_hasK_ok (own := 2) (K := px_K2) (by decide +kernel) kl_2⟩
theorem om_X2_done : px_okM px_T mX2_done := ⟨o3_X2_done, rfl, by decide +kernel, w_251, w_1, ⟨by decide +kernel, by decide +kernel⟩, fun h => (by cases h), rfl⟩
theorem o3_X2_state : px_ok3 px_T mX2_state := ⟨dk_X2_state, bk_X2_state, px_hasK_ok (own := 2) (K := px_K2) (by decide +kernel) kl_2⟩
theorem om_X2_state : px_okM px_T mX2_state := ⟨o3_X2_state, rfl, by decide +kernel, w_255, w_1, ⟨by decide +kernel, by decide +kernel⟩, fun h => (by cases h), rfl⟩
theorem o3_X2_behind : px_ok3 px_T mX2_behind := ⟨dk_X2_behind, bk_X2_behind, px_hasK_ok (own := 2) (K := px_K2) (by decide +kernel) kl_2⟩
theorem om_X2_behind : px_okM px_T mX2_behind := ⟨o3_X2_behind, rfl, by decide +kernel, w_263, w_1, ⟨by decide +kernel, by decide +kernel⟩, fun h => (by cases h), rfl⟩
theorem o3_X2_can : px_ok3 px_T mX2_can := ⟨dk_X2_can, bk_X2_can, px_hasK_ok (own := 2) (K := px_K2) (by decide +kernel) kl_2⟩
theorem om_X2_can : px_okM px_T mX2_can := ⟨o3_X2_can, rfl, by decide +kernel, w_267, w_1, ⟨by decide +kernel, by decide +kernel⟩, fun h => (by cases h), rfl⟩
theorem o3_X2_lacks : px_ok3 px_T mX2_lacks := ⟨dk_X2_lacks, bk_X2_lacks, px_hasK_ok (own := 2) (K := px_K2) (by decide +kernel) kl_2⟩
theorem om_X2_lacks : px_okM px_T mX2_lacks := ⟨o3_X2_lacks, rfl, by decide +kernel, w_272, w_1, ⟨by decide +kernel, by decide +kernel⟩, fun h => (by cases h), rfl⟩
theorem o3_X2_plan : px_ok3 px_T mX2_plan := ⟨dk_X2_plan, bk_X2_plan, px_hasK_ok (own := 2) (K := px_K2) (by decide +kernel) kl_2⟩
theorem om_X2_plan : px_okM px_T mX2_plan := ⟨o3_X2_plan, rfl, by decide +kernel, w_299, w_1, ⟨by decide +kernel, by decide +kernel⟩, fun h => (by cases h), rfl⟩
theorem o3_X2_orders : px_ok3 px_T mX2_orders := ⟨dk_X2_orders, bk_X2_orders, px_hasK_ok (own := 2) (K := px_K2) (by decide +kernel) kl_2⟩
theorem om_X2_orders : px_okM px_T mX2_orders := ⟨o3_X2_orders, rfl, by decide +kernel, w_303, w_1, ⟨by decide +kernel, by decide +kernel⟩, fun h => (by cases h), rfl⟩
theorem o3_X2_bar : px_ok3 px_T mX2_bar := ⟨dk_X2_bar, bk_X2_bar, px_hasK_ok (own := 2) (K := px_K2) (by decide +kernel) kl_2⟩
theorem om_X2_bar : px_okM px_T mX2_bar := ⟨o3_X2_bar, rfl, by decide +kernel, w_315, w_1, ⟨by decide +kernel, by decide +kernel⟩, fun h => (by cases h), rfl⟩
theorem o3_X2_falls : px_ok3 px_T mX2_falls := ⟨dk_X2_falls, bk_X2_falls, px_hasK_ok (own := 2) (K := px_K2) (by decide +kernel) kl_2⟩
theorem om_X2_falls : px_okM px_T mX2_falls := ⟨o3_X2_falls, rfl, by decide +kernel, w_335, w_1, ⟨by decide +kernel, by decide +kernel⟩, fun h => (by cases h), rfl⟩
theorem o3_X2_alone : px_ok3 px_T mX2_alone := ⟨dk_X2_alone, bk_X2_alone, px_hasK_ok (own := 2) (K := px_K2) (by decide +kernel) kl_2⟩
theorem om_X2_alone : px_okM px_T mX2_alone := ⟨o3_X2_alone, rfl, by decide +kernel, w_343, w_1, ⟨by decide +kernel, by decide +kernel⟩, fun h => (by cases h), rfl⟩
theorem o3_X2_guard : px_ok3 px_T mX2_guard := ⟨dk_X2_guard, bk_X2_guard, px_hasK_ok (own := 2) (K := px_K2) (by decide +kernel) kl_2⟩
theorem om_X2_guard : px_okM px_T mX2_guard := ⟨o3_X2_guard, rfl, by decide +kernel, w_351, w_1, ⟨by decide +kernel, by decide +kernel⟩, fun h => (by cases h), rfl⟩
theorem o3_X2_seen : px_ok3 px_T mX2_seen := ⟨dk_X2_seen, bk_X2_seen, px_hasK_ok (own := 2) (K := px_K2) (by decide +kernel) kl_2⟩
theorem om_X2_seen : px_okM px_T mX2_seen := ⟨o3_X2_seen, rfl, by decide +kernel, w_359, w_1, ⟨by decide +kernel, by decide +kernel⟩, fun h => (by cases h), rfl⟩
theorem o3_X2_forget : px_ok3 px_T mX2_forget := ⟨dk_X2_forget, bk_X2_forget, px_hasK_ok (own := 2) (K := px_K2) (by decide +kernel) kl_2⟩
theorem om_X2_forget : px_okM px_T mX2_forget := ⟨o3_X2_forget, rfl, by decide +kernel, w_367, w_1, ⟨by decide +kernel, by decide +kernel⟩, fun h => (by cases h), rfl⟩
theorem o3_X2_hidden : px_ok3 px_T mX2_hidden := ⟨dk_X2_hidden, bk_X2_hidden, px_hasK_ok (own := 2) (K := px_K2) (by decide +kernel) kl_2⟩
theorem om_X2_hidden : px_okM px_T mX2_hidden := ⟨o3_X2_hidden, rfl, by decide +kernel, w_371, w_1, ⟨by decide +kernel, by decide +kernel⟩, fun h => (by cases h), rfl⟩
theorem o3_X2_tries : px_ok3 px_T mX2_tries := ⟨dk_X2_tries, bk_X2_tries, px_hasK_ok (own := 2) (K := px_K2) (by decide +kernel) kl_2⟩
theorem om_X2_tries : px_okM px_T mX2_tries := ⟨o3_X2_tries, rfl, by decide +kernel, w_407, w_1, ⟨by decide +kernel, by decide +kernel⟩, fun h => (by cases h), rfl⟩
theorem o3_X2_send : px_ok3 px_T mX2_send := ⟨dk_X2_send, bk_X2_send, px_hasK_ok (own := 2) (K := px_K2) (by decide +kernel) kl_2⟩
theorem om_X2_send : px_okM px_T mX2_send := ⟨o3_X2_send, rfl, by decide +kernel, w_418, w_1, ⟨by decide +kernel, by decide +kernel⟩, fun h => (by cases h), rfl⟩
theorem o3_X2_makes : px_ok3 px_T mX2_makes := ⟨dk_X2_makes, bk_X2_makes, px_hasK_ok (own := 2) (K := px_K2) (by decide +kernel) kl_2⟩
theorem om_X2_makes : px_okM px_T mX2_makes := ⟨o3_X2_makes, rfl, by decide +kernel, w_425, w_1, ⟨by decide +kernel, by decide +kernel⟩, fun h => (by cases h), rfl⟩
theorem o3_X2_quarrel : px_ok3 px_T mX2_quarrel := ⟨dk_X2_quarrel, bk_X2_quarrel, px_hasK_ok (own := 2) (K := px_K2) (by decide +kernel) kl_2⟩
theorem om_X2_quarrel : px_okM px_T mX2_quarrel := ⟨o3_X2_quarrel, rfl, by decide +kernel, w_429, w_1, ⟨by decide +kernel, by decide +kernel⟩, fun h => (by cases h), rfl⟩
theorem o3_X2_sent : px_ok3 px_T mX2_sent := ⟨dk_X2_sent, bk_X2_sent, px_hasK_ok (own := 2) (K := px_K2) (by decide +kernel) kl_2⟩
theorem om_X2_sent : px_okM px_T mX2_sent := ⟨o3_X2_sent, rfl, by decide +kernel, w_433, w_1, ⟨by decide +kernel, by decide +kernel⟩, fun h => (by cases h), rfl⟩
theorem o3_X2_turns : px_ok3 px_T mX2_turns := ⟨dk_X2_turns, bk_X2_turns, px_hasK_ok (own := 2) (K := px_K2) (by decide +kernel) kl_2⟩
theorem om_X2_turns : px_okM px_T mX2_turns := ⟨o3_X2_turns, rfl, by decide +kernel, w_437, w_1, ⟨by decide +kernel, by decide +kernel⟩, fun h => (by cases h), rfl⟩
theorem o3_X2_fever : px_ok3 px_T mX2_fever := ⟨dk_X2_fever, bk_X2_fever, px_hasK_ok (own := 2) (K := px_K2) (by decide +kernel) kl_2⟩
theorem om_X2_fever : px_okM px_T mX2_fever := ⟨o3_X2_fever, rfl, by decide +kernel, w_449, w_1, ⟨by decide +kernel, by decide +kernel⟩, fun h => (by cases h), rfl⟩
theorem o3_X2_year : px_ok3 px_T mX2_year := ⟨dk_X2_year, bk_X2_year, px_hasK_ok (own := 2) (K := px_K2) (by decide +kernel) kl_2⟩
theorem om_X2_year : px_okM px_T mX2_year := ⟨o3_X2_year, rfl, by decide +kernel, w_479, w_1, ⟨by decide +kernel, by decide +kernel⟩, fun h => (by cases h), rfl⟩
theorem o3_X2_image : px_ok3 px_T mX2_image := ⟨dk_X2_image, bk_X2_image, px_hasK_ok (own := 2) (K := px_K2) (by decide +kernel) kl_2⟩
theorem om_X2_image : px_okM px_T mX2_image := ⟨o3_X2_image, rfl, by decide +kernel, w_487, w_1, ⟨by decide +kernel, by decide +kernel⟩, fun h => (by cases h), rfl⟩
theorem o3_X2_restore : px_ok3 px_T mX2_restore := ⟨dk_X2_restore, bk_X2_restore, px_hasK_ok (own := 2) (K := px_K2) (by decide +kernel) kl_2⟩
theorem om_X2_restore : px_okM px_T mX2_restore := ⟨o3_X2_restore, rfl, by decide +kernel, w_491, w_1, ⟨by decide +kernel, by decide +kernel⟩, fun h => (by cases h), rfl⟩
theorem o3_X2_told : px_ok3 px_T mX2_told := ⟨dk_X2_told, bk_X2_told, px_hasK_ok (own := 2) (K := px_K2) (by decide +kernel) kl_2⟩
theorem om_X2_told : px_okM px_T mX2_told := ⟨o3_X2_told, rfl, by decide +kernel, w_495, w_1, ⟨by decide +kernel, by decide +kernel⟩, fun h => (by cases h), rfl⟩
theorem o3_X2_isOfEight : px_ok3 px_T mX2_isOfEight := ⟨dk_X2_isOfEight, bk_X2_isOfEight, px_hasK_ok (own := 2) (K := px_K2) (by decide +kernel) kl_2⟩
theorem om_X2_isOfEight : px_okM px_T mX2_isOfEight := ⟨o3_X2_isOfEight, rfl, by decide +kernel, w_130, w_1, ⟨by decide +kernel, by decide +kernel⟩, fun h => (by cases h), rfl⟩
theorem o3_X2_isSet : px_ok3 px_T mX2_isSet := ⟨dk_X2_isSet, bk_X2_isSet, px_hasK_ok (own := 2) (K := px_K2) (by decide +kernel) kl_2⟩
theorem om_X2_isSet : px_okM px_T mX2_isSet := ⟨o3_X2_isSet, rfl, by decide +kernel, w_133, w_1, ⟨by decide +kernel, by decide +kernel⟩, fun h => (by cases h), rfl⟩
theorem o3_X2_isEitherOne : px_ok3 px_T mX2_isEitherOne := ⟨dk_X2_isEitherOne, bk_X2_isEitherOne, px_hasK_ok (own := 2) (K := px_K2) (by decide +kernel) kl_2⟩
theorem om_X2_isEitherOne : px_okM px_T mX2_isEitherOne := ⟨o3_X2_isEitherOne, rfl, by decide +kernel, w_183, w_1, ⟨by decide +kernel, by decide +kernel⟩, fun h => (by cases h), rfl⟩
theorem o3_X2_isColony : px_ok3 px_T mX2_isColony := ⟨dk_X2_isColony, bk_X2_isColony, px_hasK_ok (own := 2) (K := px_K2) (by decide +kernel) kl_2⟩
theorem om_X2_isColony : px_okM px_T mX2_isColony := ⟨o3_X2_isColony, rfl, by decide +kernel, w_421, w_1, ⟨by decide +kernel, by decide +kernel⟩, fun h => (by cases h), rfl⟩
theorem o3_X2_tryReign : px_ok3 px_T mX2_tryReign := ⟨dk_X2_tryReign, bk_X2_tryReign, px_hasK_ok (own := 2) (K := px_K2) (by decide +kernel) kl_2⟩
theorem om_X2_tryReign : px_okM px_T mX2_tryReign := ⟨o3_X2_tryReign, rfl, by decide +kernel, w_187, w_1, ⟨by decide +kernel, by decide +kernel⟩, fun h => (by cases h), rfl⟩
theorem o3_X2_kindOfDraw : px_ok3 px_T mX2_kindOfDraw := ⟨dk_X2_kindOfDraw, bk_X2_kindOfDraw, px_hasK_ok (own := 2) (K := px_K2) (by decide +kernel) kl_2⟩
theorem om_X2_kindOfDraw : px_okM px_T mX2_kindOfDraw := ⟨o3_X2_kindOfDraw, rfl, by decide +kernel, w_483, w_1, ⟨by decide +kernel, by decide +kernel⟩, fun h => (by cases h), rfl⟩
theorem o3_X2_cheapestPlan : px_ok3 px_T mX2_cheapestPlan := ⟨dk_X2_cheapestPlan, bk_X2_cheapestPlan, px_hasK_ok (own := 2) (K := px_K2) (by decide +kernel) kl_2⟩
theorem om_X2_cheapestPlan : px_okM px_T mX2_cheapestPlan := ⟨o3_X2_cheapestPlan, rfl, by decide +kernel, w_276, w_1, ⟨by decide +kernel, by decide +kernel⟩, fun h => (by cases h), rfl⟩
theorem o3_X2_fitsPlan : px_ok3 px_T mX2_fitsPlan := ⟨dk_X2_fitsPlan, bk_X2_fitsPlan, px_hasK_ok (own := 2) (K := px_K2) (by decide +kernel) kl_2⟩
theorem om_X2_fitsPlan : px_okM px_T mX2_fitsPlan := ⟨o3_X2_fitsPlan, rfl, by decide +kernel, w_285, w_1, ⟨by decide +kernel, by decide +kernel⟩, fun h => (by cases h), rfl⟩
theorem o3_X2_tellPlan : px_ok3 px_T mX2_tellPlan := ⟨dk_X2_tellPlan, bk_X2_tellPlan, px_hasK_ok (own := 2) (K := px_K2) (by decide +kernel) kl_2⟩
theorem om_X2_tellPlan : px_okM px_T mX2_tellPlan := ⟨o3_X2_tellPlan, rfl, by decide +kernel, w_295, w_1, ⟨by decide +kernel, by decide +kernel⟩, fun h => (by cases h), rfl⟩
theorem o3_X2_fewestToBar : px_ok3 px_T mX2_fewestToBar := ⟨dk_X2_fewestToBar, bk_X2_fewestToBar, px_hasK_ok (own := 2) (K := px_K2) (by decide +kernel) kl_2⟩
theorem om_X2_fewestToBar : px_okM px_T mX2_fewestToBar := ⟨o3_X2_fewestToBar, rfl, by decide +kernel, w_319, w_1, ⟨by decide +kernel, by decide +kernel⟩, fun h => (by cases h), rfl⟩
theorem o3_X2_fewestToGuard : px_ok3 px_T mX2_fewestToGuard := ⟨dk_X2_fewestToGuard, bk_X2_fewestToGuard, px_hasK_ok (own := 2) (K := px_K2) (by decide +kernel) kl_2⟩
theorem om_X2_fewestToGuard : px_okM px_T mX2_fewestToGuard := ⟨o3_X2_fewestToGuard, rfl, by decide +kernel, w_355, w_1, ⟨by decide +kernel, by decide +kernel⟩, fun h => (by cases h), rfl⟩
theorem o3_X2_isFewer : px_ok3 px_T mX2_isFewer := ⟨dk_X2_isFewer, bk_X2_isFewer, px_hasK_ok (own := 2) (K := px_K2) (by decide +kernel) kl_2⟩
theorem om_X2_isFewer : px_okM px_T mX2_isFewer := ⟨o3_X2_isFewer, rfl, by decide +kernel, w_326, w_1, ⟨by decide +kernel, by decide +kernel⟩, fun h => (by cases h), rfl⟩
theorem o3_X2_tellFewest : px_ok3 px_T mX2_tellFewest := ⟨dk_X2_tellFewest, bk_X2_tellFewest, px_hasK_ok (own := 2) (K := px_K2) (by decide +kernel) kl_2⟩
theorem om_X2_tellFewest : px_okM px_T mX2_tellFewest := ⟨o3_X2_tellFewest, rfl, by decide +kernel, w_331, w_1, ⟨by decide +kernel, by decide +kernel⟩, fun h => (by cases h), rfl⟩
theorem o3_X2_clearBySet : px_ok3 px_T mX2_clearBySet := ⟨dk_X2_clearBySet, bk_X2_clearBySet, px_hasK_ok (own := 2) (K := px_K2) (by decide +kernel) kl_2⟩
theorem om_X2_clearBySet : px_okM px_T mX2_clearBySet := ⟨o3_X2_clearBySet, rfl, by decide +kernel, w_307, w_1, ⟨by decide +kernel, by decide +kernel⟩, fun h => (by cases h), rfl⟩
theorem o3_X2_findHidden : px_ok3 px_T mX2_findHidden := ⟨dk_X2_findHidden, bk_X2_findHidden, px_hasK_ok (own := 2) (K := px_K2) (by decide +kernel) kl_2⟩
theorem om_X2_findHidden : px_okM px_T mX2_findHidden := ⟨o3_X2_findHidden, rfl, by decide +kernel, w_375, w_1, ⟨by decide +kernel, by decide +kernel⟩, fun h => (by cases h), rfl⟩
theorem o3_X2_markAllWithMore : px_ok3 px_T mX2_markAllWithMore := ⟨dk_X2_markAllWithMore, bk_X2_markAllWithMore, px_hasK_ok (own := 2) (K := px_K2) (by decide +kernel) kl_2⟩
theorem om_X2_markAllWithMore : px_okM px_T mX2_markAllWithMore := ⟨o3_X2_markAllWithMore, rfl, by decide +kernel, w_383, w_1, ⟨by decide +kernel, by decide +kernel⟩, fun h => (by cases h), rfl⟩
theorem o3_X2_keepThoseSeenAt : px_ok3 px_T mX2_keepThoseSeenAt := ⟨dk_X2_keepThoseSeenAt, bk_X2_keepThoseSeenAt, px_hasK_ok (own := 2) (K := px_K2) (by decide +kernel) kl_2⟩
theorem om_X2_keepThoseSeenAt : px_okM px_T mX2_keepThoseSeenAt := ⟨o3_X2_keepThoseSeenAt, rfl, by decide +kernel, w_387, w_1, ⟨by decide +kernel, by decide +kernel⟩, fun h => (by cases h), rfl⟩
theorem o3_X2_countHidden : px_ok3 px_T mX2_countHidden := ⟨dk_X2_countHidden, bk_X2_countHidden, px_hasK_ok (own := 2) (K := px_K2) (by decide +kernel) kl_2⟩
theorem om_X2_countHidden : px_okM px_T mX2_countHidden := ⟨o3_X2_countHidden, rfl, by decide +kernel, w_395, w_1, ⟨by decide +kernel, by decide +kernel⟩, fun h => (by cases h), rfl⟩
theorem o3_X2_partsInSomeHidden : px_ok3 px_T mX2_partsInSomeHidden := ⟨dk_X2_partsInSomeHidden, bk_X2_partsInSomeHidden, px_hasK_ok (own := 2) (K := px_K2) (by decide +kernel) kl_2⟩
theorem om_X2_partsInSomeHidden : px_okM px_T mX2_partsInSomeHidden := ⟨o3_X2_partsInSomeHidden, rfl, by decide +kernel, w_403, w_1, ⟨by decide +kernel, by decide +kernel⟩, fun h => (by cases h), rfl⟩
theorem o3_X2_partsInAllHidden : px_ok3 px_T mX2_partsInAllHidden := ⟨dk_X2_partsInAllHidden, bk_X2_partsInAllHidden, px_hasK_ok (own := 2) (K := px_K2) (by decide +kernel) kl_2⟩
theorem om_X2_partsInAllHidden : px_okM px_T mX2_partsInAllHidden := ⟨o3_X2_partsInAllHidden, rfl, by decide +kernel, w_399, w_1, ⟨by decide +kernel, by decide +kernel⟩, fun h => (by cases h), rfl⟩
theorem o3_X2_mostLeftBy : px_ok3 px_T mX2_mostLeftBy := ⟨dk_X2_mostLeftBy, bk_X2_mostLeftBy, px_hasK_ok (own := 2) (K := px_K2) (by decide +kernel) kl_2⟩
theorem om_X2_mostLeftBy : px_okM px_T mX2_mostLeftBy := ⟨o3_X2_mostLeftBy, rfl, by decide +kernel, w_411, w_1, ⟨by decide +kernel, by decide +kernel⟩, fun h => (by cases h), rfl⟩
theorem o3_X2_findWinningParts : px_ok3 px_T mX2_findWinningParts := ⟨dk_X2_findWinningParts, bk_X2_findWinningParts, px_hasK_ok (own := 2) (K := px_K2) (by decide +kernel) kl_2⟩
theorem om_X2_findWinningParts : px_okM px_T mX2_findWinningParts := ⟨o3_X2_findWinningParts, rfl, by decide +kernel, w_441, w_1, ⟨by decide +kernel, by decide +kernel⟩, fun h => (by cases h), rfl⟩
theorem o3_X2_winningPart : px_ok3 px_T mX2_winningPart := ⟨dk_X2_winningPart, bk_X2_winningPart, px_hasK_ok (own := 2) (K := px_K2) (by decide +kernel) kl_2⟩
theorem om_X2_winningPart : px_okM px_T mX2_winningPart := ⟨o3_X2_winningPart, rfl, by decide +kernel, w_445, w_1, ⟨by decide +kernel, by decide +kernel⟩, fun h => (by cases h), rfl⟩
theorem o3_X2_feverChances : px_ok3 px_T mX2_feverChances := ⟨dk_X2_feverChances, bk_X2_feverChances, px_hasK_ok (own := 2) (K := px_K2) (by decide +kernel) kl_2⟩
theorem om_X2_feverChances : px_okM px_T mX2_feverChances := ⟨o3_X2_feverChances, rfl, by decide +kernel, w_455, w_1, ⟨by decide +kernel, by decide +kernel⟩, fun h => (by cases h), rfl⟩
theorem o3_X2_feverHours : px_ok3 px_T mX2_feverHours := ⟨dk_X2_feverHours, bk_X2_feverHours, px_hasK_ok (own := 2) (K := px_K2) (by decide +kernel) kl_2⟩
theorem om_X2_feverHours : px_okM px_T mX2_feverHours := ⟨o3_X2_feverHours, rfl, by decide +kernel, w_472, w_1, ⟨by decide +kernel, by decide +kernel⟩, fun h => (by cases h), rfl⟩
theorem o3_X2_feverWeight : px_ok3 px_T mX2_feverWeight := ⟨dk_X2_feverWeight, bk_X2_feverWeight, px_hasK_ok (own := 2) (K := px_K2) (by decide +kernel) kl_2⟩
theorem om_X2_feverWeight : px_okM px_T mX2_feverWeight := ⟨o3_X2_feverWeight, rfl, by decide +kernel, w_458, w_1, ⟨by decide +kernel, by decide +kernel⟩, fun h => (by cases h), rfl⟩
theorem o3_X2_choices : px_ok3 px_T mX2_choices := ⟨dk_X2_choices, bk_X2_choices, px_hasK_ok (own := 2) (K := px_K2) (by decide +kernel) kl_2⟩
theorem om_X2_choices : px_okM px_T mX2_choices := ⟨o3_X2_choices, rfl, by decide +kernel, w_461, w_1, ⟨by decide +kernel, by decide +kernel⟩, fun h => (by cases h), rfl⟩
theorem o3_X2_power : px_ok3 px_T mX2_power := ⟨dk_X2_power, bk_X2_power, px_hasK_ok (own := 2) (K := px_K2) (by decide +kernel) kl_2⟩
theorem om_X2_power : px_okM px_T mX2_power := ⟨o3_X2_power, rfl, by decide +kernel, w_464, w_1, ⟨by decide +kernel, by decide +kernel⟩, fun h => (by cases h), rfl⟩
theorem o3_X2_commonDivisor : px_ok3 px_T mX2_commonDivisor := ⟨dk_X2_commonDivisor, bk_X2_commonDivisor, px_hasK_ok (own := 2) (K := px_K2) (by decide +kernel) kl_2⟩
theorem om_X2_commonDivisor : px_okM px_T mX2_commonDivisor := ⟨o3_X2_commonDivisor, rfl, by decide +kernel, w_475, w_1, ⟨by decide +kernel, by decide +kernel⟩, fun h => (by cases h), rfl⟩
theorem o3_X3_init : px_ok3 px_T mX3_init := ⟨dk_X3_init, bk_X3_init, px_hasK_ok (own := 3) (K := px_K3) (by decide +kernel) kl_3⟩
theorem om_X3_init : px_okM px_T mX3_init := ⟨o3_X3_init, rfl, by decide +kernel, w_504, w_4, ⟨by decide +kernel, by decide +kernel⟩, fun _ => rfl, rfl⟩
theorem o3_X3_in : px_ok3 px_T mX3_in := ⟨dk_X3_in, bk_X3_in, px_hasK_ok (own := 3) (K := px_K3) (by decide +kernel) kl_3⟩
theorem om_X3_in : px_okM px_T mX3_in := ⟨o3_X3_in, rfl, by decide +kernel, w_595, w_4, ⟨by decide +kernel, by decide +kernel⟩, fun h => (by cases h), rfl⟩
theorem o3_X3_has : px_ok3 px_T mX3_has := ⟨dk_X3_has, bk_X3_has, px_hasK_ok (own := 3) (K := px_K3) (by decide +kernel) kl_3⟩
theorem om_X3_has : px_okM px_T mX3_has := ⟨o3_X3_has, rfl, by decide +kernel, w_602, w_4, ⟨by decide +kernel, by decide +kernel⟩, fun h => (by cases h), rfl⟩
theorem o3_X3_bits : px_ok3 px_T mX3_bits := ⟨dk_X3_bits, bk_X3_bits, px_hasK_ok (own := 3) (K := px_K3) (by decide +kernel) kl_3⟩
theorem om_X3_bits : px_okM px_T mX3_bits := ⟨o3_X3_bits, rfl, by decide +kernel, w_732, w_4, ⟨by decide +kernel, by decide +kernel⟩, fun h => (by cases h), rfl⟩
theorem o3_X3_isOne : px_ok3 px_T mX3_isOne := ⟨dk_X3_isOne, bk_X3_isOne, px_hasK_ok (own := 3) (K := px_K3) (by decide +kernel) kl_3⟩
theorem om_X3_isOne : px_okM px_T mX3_isOne := ⟨o3_X3_isOne, rfl, by decide +kernel, w_592, w_4, ⟨by decide +kernel, by decide +kernel⟩, fun h => (by cases h), rfl⟩
theorem o3_X3_above : px_ok3 px_T mX3_above := ⟨dk_X3_above, bk_X3_above, px_hasK_ok (own := 3) (K := px_K3) (by decide +kernel) kl_3⟩
theorem om_X3_above : px_okM px_T mX3_above := ⟨o3_X3_above, rfl, by decide +kernel, w_599, w_4, ⟨by decide +kernel, by decide +kernel⟩, fun h => (by cases h), rfl⟩
theorem o3_X3_part : px_ok3 px_T mX3_part := ⟨dk_X3_part, bk_X3_part, px_hasK_ok (own := 3) (K := px_K3) (by decide +kernel) kl_3⟩
theorem om_X3_part : px_okM px_T mX3_part := ⟨o3_X3_part, rfl, by decide +kernel, w_589, w_4, ⟨by decide +kernel, by decide +kernel⟩, fun h => (by cases h), rfl⟩
theorem o3_X3_needs : px_ok3 px_T mX3_needs := ⟨dk_X3_needs, bk_X3_needs, px_hasK_ok (own := 3) (K := px_K3) (by decide +kernel) kl_3⟩
theorem om_X3_needs : px_okM px_T mX3_needs := ⟨o3_X3_needs, rfl, by decide +kernel, w_606, w_4, ⟨by decide +kernel, by decide +kernel⟩, fun h => (by cases h), rfl⟩
theorem o3_X3_say : px_ok3 px_T mX3_say := ⟨dk_X3_say, bk_X3_say, px_hasK_ok (own := 3) (K := px_K3) (by decide +kernel) kl_3⟩
theorem om_X3_say : px_okM px_T mX3_say := ⟨o3_X3_say, rfl, by decide +kernel, w_610, w_4, ⟨by decide +kernel, by decide +kernel⟩, fun h => (by cases h), rfl⟩
theorem o3_X3_wipe : px_ok3 px_T mX3_wipe := ⟨dk_X3_wipe, bk_X3_wipe, px_hasK_ok (own := 3) (K := px_K3) (by decide +kernel) kl_3⟩
theorem om_X3_wipe : px_okM px_T mX3_wipe := ⟨o3_X3_wipe, rfl, by decide +kernel, w_614, w_4, ⟨by decide +kernel, by decide +kernel⟩, fun h => (by cases h), rfl⟩
theorem o3_X3_isPart : px_ok3 px_T mX3_isPart := ⟨dk_X3_isPart, bk_X3_isPart, px_hasK_ok (own := 3) (K := px_K3) (by decide +kernel) kl_3⟩
theorem om_X3_isPart : px_okM px_T mX3_isPart := ⟨o3_X3_isPart, rfl, by decide +kernel, w_625, w_4, ⟨by decide +kernel, by decide +kernel⟩, fun h => (by cases h), rfl⟩
theorem o3_X3_faultOf : px_ok3 px_T mX3_faultOf := ⟨dk_X3_faultOf, bk_X3_faultOf, px_hasK_ok (own := 3) (K := px_K3) (by decide +kernel) kl_3⟩
theorem om_X3_faultOf : px_okM px_T mX3_faultOf := ⟨o3_X3_faultOf, rfl, by decide +kernel, w_622, w_4, ⟨by decide +kernel, by decide +kernel⟩, fun h => (by cases h), rfl⟩
theorem o3_X3_fault : px_ok3 px_T mX3_fault := ⟨dk_X3_fault, bk_X3_fault, px_hasK_ok (own := 3) (K := px_K3) (by decide +kernel) kl_3⟩
theorem om_X3_fault : px_okM px_T mX3_fault := ⟨o3_X3_fault, rfl, by decide +kernel, w_618, w_4, ⟨by decide +kernel, by decide +kernel⟩, fun h => (by cases h), rfl⟩
theorem o3_X3_asNow : px_ok3 px_T mX3_asNow := ⟨dk_X3_asNow, bk_X3_asNow, px_hasK_ok (own := 3) (K := px_K3) (by decide +kernel) kl_3⟩
theorem om_X3_asNow : px_okM px_T mX3_asNow := ⟨o3_X3_asNow, rfl, by decide +kernel, w_637, w_4, ⟨by decide +kernel, by decide +kernel⟩, fun h => (by cases h), rfl⟩
theorem o3_X3_doneNow : px_ok3 px_T mX3_doneNow := ⟨dk_X3_doneNow, bk_X3_doneNow, px_hasK_ok (own := 3) (K := px_K3) (by decide +kernel) kl_3⟩
theorem om_X3_doneNow : px_okM px_T mX3_doneNow := ⟨o3_X3_doneNow, rfl, by decide +kernel, w_649, w_4, ⟨by decide +kernel, by decide +kernel⟩, fun h => (by cases h), rfl⟩
theorem o3_X3_powers : px_ok3 px_T mX3_powers := ⟨dk_X3_powers, bk_X3_powers, px_hasK_ok (own := 3) (K := px_K3) (by decide +kernel) kl_3⟩
theorem om_X3_powers : px_okM px_T mX3_powers := ⟨o3_X3_powers, rfl, by decide +kernel, w_653, w_4, ⟨by decide +kernel, by decide +kernel⟩, fun h => (by cases h), rfl⟩
theorem o3_X3_givesAll : px_ok3 px_T mX3_givesAll := ⟨dk_X3_givesAll, bk_X3_givesAll, px_hasK_ok (own := 3) (K := px_K3) (by decide +kernel) kl_3⟩
theorem om_X3_givesAll : px_okM px_T mX3_givesAll := ⟨o3_X3_givesAll, rfl, by decide +kernel, w_713, w_4, ⟨by decide +kernel, by decide +kernel⟩, fun h => (by cases h), rfl⟩
theorem o3_X3_powersNow : px_ok3 px_T mX3_powersNow := ⟨dk_X3_powersNow, bk_X3_powersNow, px_hasK_ok (own := 3) (K := px_K3) (by decide +kernel) kl_3⟩
theorem om_X3_powersNow : px_okM px_T mX3_powersNow := ⟨o3_X3_powersNow, rfl, by decide +kernel, w_645, w_4, ⟨by decide +kernel, by decide +kernel⟩, fun h => (by cases h), rfl⟩
theorem o3_X3_whyNoHour : px_ok3 px_T mX3_whyNoHour := ⟨dk_X3_whyNoHour, bk_X3_whyNoHour, px_hasK_ok (own := 3) (K := px_K3) (by decide +kernel) kl_3⟩
theorem om_X3_whyNoHour : px_okM px_T mX3_whyNoHour := ⟨o3_X3_whyNoHour, rfl, by decide +kernel, w_657, w_4, ⟨by decide +kernel, by decide +kernel⟩, fun h => (by cases h), rfl⟩
theorem o3_X3_paint : px_ok3 px_T mX3_paint := ⟨dk_X3_paint, bk_X3_paint, px_hasK_ok (own := 3) (K := px_K3) (by decide +kernel) kl_3⟩
theorem om_X3_paint : px_okM px_T mX3_paint := ⟨o3_X3_paint, rfl, by decide +kernel, w_661, w_4, ⟨by decide +kernel, by decide +kernel⟩, fun h => (by cases h), rfl⟩
theorem o3_X3_over : px_ok3 px_T mX3_over := ⟨dk_X3_over, bk_X3_over, px_hasK_ok (own := 3) (K := px_K3) (by decide +kernel) kl_3⟩
theorem om_X3_over : px_okM px_T mX3_over := ⟨o3_X3_over, rfl, by decide +kernel, w_641, w_4, ⟨by decide +kernel, by decide +kernel⟩, fun h => (by cases h), rfl⟩
theorem o3_X3_whyNoAct : px_ok3 px_T mX3_whyNoAct := ⟨dk_X3_whyNoAct, bk_X3_whyNoAct, px_hasK_ok (own := 3) (K := px_K3) (by decide +kernel) kl_3⟩
theorem om_X3_whyNoAct : px_okM px_T mX3_whyNoAct := ⟨o3_X3_whyNoAct, rfl, by decide +kernel, w_665, w_4, ⟨by decide +kernel, by decide +kernel⟩, fun h => (by cases h), rfl⟩
theorem o3_X3_make : px_ok3 px_T mX3_make := ⟨dk_X3_make, bk_X3_make, px_hasK_ok (own := 3) (K := px_K3) (by decide +kernel) kl_3⟩
theorem om_X3_make : px_okM px_T mX3_make := ⟨o3_X3_make, rfl, by decide +kernel, w_669, w_4, ⟨by decide +kernel, by decide +kernel⟩, fun h => (by cases h), rfl⟩
theorem o3_X3_goReign : px_ok3 px_T mX3_goReign := ⟨dk_X3_goReign, bk_X3_goReign, px_hasK_ok (own := 3) (K := px_K3) (by decide +kernel) kl_3⟩
theorem om_X3_goReign : px_okM px_T mX3_goReign := ⟨o3_X3_goReign, rfl, by decide +kernel, w_633, w_4, ⟨by decide +kernel, by decide +kernel⟩, fun h => (by cases h), rfl⟩
theorem o3_X3_judge : px_ok3 px_T mX3_judge := ⟨dk_X3_judge, bk_X3_judge, px_hasK_ok (own := 3) (K := px_K3) (by decide +kernel) kl_3⟩
theorem om_X3_judge : px_okM px_T mX3_judge := ⟨o3_X3_judge, rfl, by decide +kernel, w_629, w_4, ⟨by decide +kernel, by decide +kernel⟩, fun h => (by cases h), rfl⟩
theorem o3_X3_barOfReign : px_ok3 px_T mX3_barOfReign := ⟨dk_X3_barOfReign, bk_X3_barOfReign, px_hasK_ok (own := 3) (K := px_K3) (by decide +kernel) kl_3⟩
theorem om_X3_barOfReign : px_okM px_T mX3_barOfReign := ⟨o3_X3_barOfReign, rfl, by decide +kernel, w_677, w_4, ⟨by decide +kernel, by decide +kernel⟩, fun h => (by cases h), rfl⟩
theorem o3_X3_done : px_ok3 px_T mX3_done := ⟨dk_X3_done, bk_X3_done, px_hasK_ok (own := 3) (K := px_K3) (by decide +kernel) kl_3⟩
theorem om_X3_done : px_okM px_T mX3_done := ⟨o3_X3_done, rfl, by decide +kernel, w_673, w_4, ⟨by decide +kernel, by decide +kernel⟩, fun h => (by cases h), rfl⟩
theorem o3_X3_stateNow : px_ok3 px_T mX3_stateNow := ⟨dk_X3_stateNow, bk_X3_stateNow, px_hasK_ok (own := 3) (K := px_K3) (by decide +kernel) kl_3⟩
theorem om_X3_stateNow : px_okM px_T mX3_stateNow := ⟨o3_X3_stateNow, rfl, by decide +kernel, w_685, w_4, ⟨by decide +kernel, by decide +kernel⟩, fun h => (by cases h), rfl⟩
theorem o3_X3_state : px_ok3 px_T mX3_state := ⟨dk_X3_state, bk_X3_state, px_hasK_ok (own := 3) (K := px_K3) (by decide +kernel) kl_3⟩
theorem om_X3_state : px_okM px_T mX3_state := ⟨o3_X3_state, rfl, by decide +kernel, w_681, w_4, ⟨by decide +kernel, by decide +kernel⟩, fun h => (by cases h), rfl⟩
theorem o3_X3_behind : px_ok3 px_T mX3_behind := ⟨dk_X3_behind, bk_X3_behind, px_hasK_ok (own := 3) (K := px_K3) (by decide +kernel) kl_3⟩
theorem om_X3_behind : px_okM px_T mX3_behind := ⟨o3_X3_behind, rfl, by decide +kernel, w_689, w_4, ⟨by decide +kernel, by decide +kernel⟩, fun h => (by cases h), rfl⟩
theorem o3_X3_can : px_ok3 px_T mX3_can := ⟨dk_X3_can, bk_X3_can, px_hasK_ok (own := 3) (K := px_K3) (by decide +kernel) kl_3⟩
theorem om_X3_can : px_okM px_T mX3_can := ⟨o3_X3_can, rfl, by decide +kernel, w_693, w_4, ⟨by decide +kernel, by decide +kernel⟩, fun h => (by cases h), rfl⟩
theorem o3_X3_isClosed : px_ok3 px_T mX3_isClosed := ⟨dk_X3_isClosed, bk_X3_isClosed, px_hasK_ok (own := 3) (K := px_K3) (by decide +kernel) kl_3⟩
theorem om_X3_isClosed : px_okM px_T mX3_isClosed := ⟨o3_X3_isClosed, rfl, by decide +kernel, w_705, w_4, ⟨by decide +kernel, by decide +kernel⟩, fun h => (by cases h), rfl⟩
theorem o3_X3_costOf : px_ok3 px_T mX3_costOf := ⟨dk_X3_costOf, bk_X3_costOf, px_hasK_ok (own := 3) (K := px_K3) (by decide +kernel) kl_3⟩
theorem om_X3_costOf : px_okM px_T mX3_costOf := ⟨o3_X3_costOf, rfl, by decide +kernel, w_709, w_4, ⟨by decide +kernel, by decide +kernel⟩, fun h => (by cases h), rfl⟩
theorem o3_X3_cheapest : px_ok3 px_T mX3_cheapest := ⟨dk_X3_cheapest, bk_X3_cheapest, px_hasK_ok (own := 3) (K := px_K3) (by decide +kernel) kl_3⟩
theorem om_X3_cheapest : px_okM px_T mX3_cheapest := ⟨o3_X3_cheapest, rfl, by decide +kernel, w_701, w_4, ⟨by decide +kernel, by decide +kernel⟩, fun h => (by cases h), rfl⟩
theorem o3_X3_lacks : px_ok3 px_T mX3_lacks := ⟨dk_X3_lacks, bk_X3_lacks, px_hasK_ok (own := 3) (K := px_K3) (by decide +kernel) kl_3⟩
theorem om_X3_lacks : px_okM px_T mX3_lacks := ⟨o3_X3_lacks, rfl, by decide +kernel, w_697, w_4, ⟨by decide +kernel, by decide +kernel⟩, fun h => (by cases h), rfl⟩
theorem o3_X3_plan : px_ok3 px_T mX3_plan := ⟨dk_X3_plan, bk_X3_plan, px_hasK_ok (own := 3) (K := px_K3) (by decide +kernel) kl_3⟩
theorem om_X3_plan : px_okM px_T mX3_plan := ⟨o3_X3_plan, rfl, by decide +kernel, w_717, w_4, ⟨by decide +kernel, by decide +kernel⟩, fun h => (by cases h), rfl⟩
theorem o3_X3_orders : px_ok3 px_T mX3_orders := ⟨dk_X3_orders, bk_X3_orders, px_hasK_ok (own := 3) (K := px_K3) (by decide +kernel) kl_3⟩
theorem om_X3_orders : px_okM px_T mX3_orders := ⟨o3_X3_orders, rfl, by decide +kernel, w_721, w_4, ⟨by decide +kernel, by decide +kernel⟩, fun h => (by cases h), rfl⟩
theorem o3_X3_begun : px_ok3 px_T mX3_begun := ⟨dk_X3_begun, bk_X3_begun, px_hasK_ok (own := 3) (K := px_K3) (by decide +kernel) kl_3⟩
theorem om_X3_begun : px_okM px_T mX3_begun := ⟨o3_X3_begun, rfl, by decide +kernel, w_729, w_4, ⟨by decide +kernel, by decide +kernel⟩, fun h => (by cases h), rfl⟩
theorem o3_X3_bar : px_ok3 px_T mX3_bar := ⟨dk_X3_bar, bk_X3_bar, px_hasK_ok (own := 3) (K := px_K3) (by decide +kernel) kl_3⟩
theorem om_X3_bar : px_okM px_T mX3_bar := ⟨o3_X3_bar, rfl, by decide +kernel, w_725, w_4, ⟨by decide +kernel, by decide +kernel⟩, fun h => (by cases h), rfl⟩
theorem o3_X3_falls : px_ok3 px_T mX3_falls := ⟨dk_X3_falls, bk_X3_falls, px_hasK_ok (own := 3) (K := px_K3) (by decide +kernel) kl_3⟩
theorem om_X3_falls : px_okM px_T mX3_falls := ⟨o3_X3_falls, rfl, by decide +kernel, w_736, w_4, ⟨by decide +kernel, by decide +kernel⟩, fun h => (by cases h), rfl⟩
theorem o3_X3_aloneFor : px_ok3 px_T mX3_aloneFor := ⟨dk_X3_aloneFor, bk_X3_aloneFor, px_hasK_ok (own := 3) (K := px_K3) (by decide +kernel) kl_3⟩
theorem om_X3_aloneFor : px_okM px_T mX3_aloneFor := ⟨o3_X3_aloneFor, rfl, by decide +kernel, w_744, w_4, ⟨by decide +kernel, by decide +kernel⟩, fun h => (by cases h), rfl⟩
theorem o3_X3_alone : px_ok3 px_T mX3_alone := ⟨dk_X3_alone, bk_X3_alone, px_hasK_ok (own := 3) (K := px_K3) (by decide +kernel) kl_3⟩
theorem om_X3_alone : px_okM px_T mX3_alone := ⟨o3_X3_alone, rfl, by decide +kernel, w_740, w_4, ⟨by decide +kernel, by decide +kernel⟩, fun h => (by cases h), rfl⟩
theorem o3_X3_guard : px_ok3 px_T mX3_guard := ⟨dk_X3_guard, bk_X3_guard, px_hasK_ok (own := 3) (K := px_K3) (by decide +kernel) kl_3⟩
theorem om_X3_guard : px_okM px_T mX3_guard := ⟨o3_X3_guard, rfl, by decide +kernel, w_748, w_4, ⟨by decide +kernel, by decide +kernel⟩, fun h => (by cases h), rfl⟩
theorem o3_X3_seen : px_ok3 px_T mX3_seen := ⟨dk_X3_seen, bk_X3_seen, px_hasK_ok (own := 3) (K := px_K3) (by decide +kernel) kl_3⟩
theorem om_X3_seen : px_okM px_T mX3_seen := ⟨o3_X3_seen, rfl, by decide +kernel, w_752, w_4, ⟨by decide +kernel, by decide +kernel⟩, fun h => (by cases h), rfl⟩
theorem o3_X3_forget : px_ok3 px_T mX3_forget := ⟨dk_X3_forget, bk_X3_forget, px_hasK_ok (own := 3) (K := px_K3) (by decide +kernel) kl_3⟩
theorem om_X3_forget : px_okM px_T mX3_forget := ⟨o3_X3_forget, rfl, by decide +kernel, w_756, w_4, ⟨by decide +kernel, by decide +kernel⟩, fun h => (by cases h), rfl⟩
theorem o3_X3_layHidden : px_ok3 px_T mX3_layHidden := ⟨dk_X3_layHidden, bk_X3_layHidden, px_hasK_ok (own := 3) (K := px_K3) (by decide +kernel) kl_3⟩
theorem om_X3_layHidden : px_okM px_T mX3_layHidden := ⟨o3_X3_layHidden, rfl, by decide +kernel, w_764, w_4, ⟨by decide +kernel, by decide +kernel⟩, fun h => (by cases h), rfl⟩
theorem o3_X3_layStep : px_ok3 px_T mX3_layStep := ⟨dk_X3_layStep, bk_X3_layStep, px_hasK_ok (own := 3) (K := px_K3) (by decide +kernel) kl_3⟩
theorem om_X3_layStep : px_okM px_T mX3_layStep := ⟨o3_X3_layStep, rfl, by decide +kernel, w_768, w_4, ⟨by decide +kernel, by decide +kernel⟩, fun h => (by cases h), rfl⟩
theorem o3_X3_hidden : px_ok3 px_T mX3_hidden := ⟨dk_X3_hidden, bk_X3_hidden, px_hasK_ok (own := 3) (K := px_K3) (by decide +kernel) kl_3⟩
theorem om_X3_hidden : px_okM px_T mX3_hidden := ⟨o3_X3_hidden, rfl, by decide +kernel, w_760, w_4, ⟨by decide +kernel, by decide +kernel⟩, fun h => (by cases h), rfl⟩
theorem o3_X3_tries : px_ok3 px_T mX3_tries := ⟨dk_X3_tries, bk_X3_tries, px_hasK_ok (own := 3) (K := px_K3) (by decide +kernel) kl_3⟩
theorem om_X3_tries : px_okM px_T mX3_tries := ⟨o3_X3_tries, rfl, by decide +kernel, w_772, w_4, ⟨by decide +kernel, by decide +kernel⟩, fun h => (by cases h), rfl⟩
theorem o3_X3_isColony : px_ok3 px_T mX3_isColony := ⟨dk_X3_isColony, bk_X3_isColony, px_hasK_ok (own := 3) (K := px_K3) (by decide +kernel) kl_3⟩
theorem om_X3_isColony : px_okM px_T mX3_isColony := ⟨o3_X3_isColony, rfl, by decide +kernel, w_780, w_4, ⟨by decide +kernel, by decide +kernel⟩, fun h => (by cases h), rfl⟩
theorem o3_X3_send : px_ok3 px_T mX3_send := ⟨dk_X3_send, bk_X3_send, px_hasK_ok (own := 3) (K := px_K3) (by decide +kernel) kl_3⟩
theorem om_X3_send : px_okM px_T mX3_send := ⟨o3_X3_send, rfl, by decide +kernel, w_777, w_4, ⟨by decide +kernel, by decide +kernel⟩, fun h => (by cases h), rfl⟩
theorem o3_X3_madeBy : px_ok3 px_T mX3_madeBy := ⟨dk_X3_madeBy, bk_X3_madeBy, px_hasK_ok (own := 3) (K := px_K3) (by decide +kernel) kl_3⟩
theorem om_X3_madeBy : px_okM px_T mX3_madeBy := ⟨o3_X3_madeBy, rfl, by decide +kernel, w_788, w_4, ⟨by decide +kernel, by decide +kernel⟩, fun h => (by cases h), rfl⟩
theorem o3_X3_makes : px_ok3 px_T mX3_makes := ⟨dk_X3_makes, bk_X3_makes, px_hasK_ok (own := 3) (K := px_K3) (by decide +kernel) kl_3⟩
theorem om_X3_makes : px_okM px_T mX3_makes := ⟨o3_X3_makes, rfl, by decide +kernel, w_784, w_4, ⟨by decide +kernel, by decide +kernel⟩, fun h => (by cases h), rfl⟩
theorem o3_X3_quarrel : px_ok3 px_T mX3_quarrel := ⟨dk_X3_quarrel, bk_X3_quarrel, px_hasK_ok (own := 3) (K := px_K3) (by decide +kernel) kl_3⟩
theorem om_X3_quarrel : px_okM px_T mX3_quarrel := ⟨o3_X3_quarrel, rfl, by decide +kernel, w_792, w_4, ⟨by decide +kernel, by decide +kernel⟩, fun h => (by cases h), rfl⟩
theorem o3_X3_sent : px_ok3 px_T mX3_sent := ⟨dk_X3_sent, bk_X3_sent, px_hasK_ok (own := 3) (K := px_K3) (by decide +kernel) kl_3⟩
theorem om_X3_sent : px_okM px_T mX3_sent := ⟨o3_X3_sent, rfl, by decide +kernel, w_796, w_4, ⟨by decide +kernel, by decide +kernel⟩, fun h => (by cases h), rfl⟩
theorem o3_X3_turns : px_ok3 px_T mX3_turns := ⟨dk_X3_turns, bk_X3_turns, px_hasK_ok (own := 3) (K := px_K3) (by decide +kernel) kl_3⟩
theorem om_X3_turns : px_okM px_T mX3_turns := ⟨o3_X3_turns, rfl, by decide +kernel, w_800, w_4, ⟨by decide +kernel, by decide +kernel⟩, fun h => (by cases h), rfl⟩
theorem o3_X3_fever : px_ok3 px_T mX3_fever := ⟨dk_X3_fever, bk_X3_fever, px_hasK_ok (own := 3) (K := px_K3) (by decide +kernel) kl_3⟩
theorem om_X3_fever : px_okM px_T mX3_fever := ⟨o3_X3_fever, rfl, by decide +kernel, w_804, w_4, ⟨by decide +kernel, by decide +kernel⟩, fun h => (by cases h), rfl⟩
theorem o3_X3_year : px_ok3 px_T mX3_year := ⟨dk_X3_year, bk_X3_year, px_hasK_ok (own := 3) (K := px_K3) (by decide +kernel) kl_3⟩
theorem om_X3_year : px_okM px_T mX3_year := ⟨o3_X3_year, rfl, by decide +kernel, w_811, w_4, ⟨by decide +kernel, by decide +kernel⟩, fun h => (by cases h), rfl⟩
theorem o3_X3_image : px_ok3 px_T mX3_image := ⟨dk_X3_image, bk_X3_image, px_hasK_ok (own := 3) (K := px_K3) (by decide +kernel) kl_3⟩
theorem om_X3_image : px_okM px_T mX3_image := ⟨o3_X3_image, rfl, by decide +kernel, w_816, w_4, ⟨by decide +kernel, by decide +kernel⟩, fun h => (by cases h), rfl⟩
theorem o3_X3_restore : px_ok3 px_T mX3_restore := ⟨dk_X3_restore, bk_X3_restore, px_hasK_ok (own := 3) (K := px_K3) (by decide +kernel) kl_3⟩
theorem om_X3_restore : px_okM px_T mX3_restore := ⟨o3_X3_restore, rfl, by decide +kernel, w_820, w_4, ⟨by decide +kernel, by decide +kernel⟩, fun h => (by cases h), rfl⟩
theorem o3_X3_told : px_ok3 px_T mX3_told := ⟨dk_X3_told, bk_X3_told, px_hasK_ok (own := 3) (K := px_K3) (by decide +kernel) kl_3⟩
theorem om_X3_told : px_okM px_T mX3_told := ⟨o3_X3_told, rfl, by decide +kernel, w_824, w_4, ⟨by decide +kernel, by decide +kernel⟩, fun h => (by cases h), rfl⟩
theorem o3_J6_bitCount_0f7a4 : px_ok3 px_T mJ6_bitCount_0f7a4 := ⟨dk_J6_bitCount_0f7a4, bk_J6_bitCount_0f7a4, px_hasK_ok (own := 4) (K := px_K4) (by decide +kernel) kl_4⟩
theorem om_J6_bitCount_0f7a4 : px_okM px_T mJ6_bitCount_0f7a4 := ⟨o3_J6_bitCount_0f7a4, rfl, by decide +kernel, w_244, w_6, ⟨by decide +kernel, by decide +kernel⟩, fun h => (by cases h), rfl⟩
theorem o3_L_law : px_ok3 px_T mL_law := ⟨dk_L_law, bk_L_law, px_hasK_ok (own := 6) (K := px_K6) (by decide +kernel) kl_6⟩
theorem px_L0_ok : ∀ M ∈ px_L0, px_okM px_T M := by
  intro M hM
  simp only [px_L0, List.mem_cons, List.not_mem_nil, or_false] at hM
  rcases hM with rfl | rfl | rfl | rfl | rfl | rfl | rfl | rfl | rfl | rfl | rfl | rfl | rfl | rfl | rfl | rfl | rfl | rfl | rfl | rfl | rfl | rfl | rfl | rfl | rfl | rfl | rfl | rfl | rfl | rfl | rfl | rfl | rfl | rfl | rfl | rfl | rfl | rfl | rfl | rfl | rfl | rfl | rfl | rfl | rfl | rfl | rfl | rfl | rfl | rfl | rfl | rfl | rfl | rfl | rfl | rfl | rfl | rfl | rfl | rfl | rfl | rfl | rfl | rfl | rfl | rfl | rfl | rfl | rfl | rfl | rfl | rfl | rfl | rfl | rfl | rfl | rfl | rfl | rfl | rfl | rfl | rfl | rfl | rfl | rfl | rfl | rfl | rfl | rfl | rfl | rfl | rfl | rfl | rfl | rfl | rfl | rfl | rfl | rfl | rfl | rfl | rfl | rfl | rfl | rfl | rfl | rfl | rfl | rfl | rfl | rfl | rfl | rfl | rfl | rfl | rfl | rfl | rfl | rfl | rfl | rfl | rfl | rfl | rfl | rfl | rfl | rfl | rfl | rfl | rfl | rfl | rfl | rfl | rfl | rfl | rfl | rfl | rfl | rfl | rfl | rfl | rfl | rfl | rfl | rfl | rfl | rfl | rfl | rfl | rfl | rfl | rfl | rfl | rfl | rfl | rfl
  · exact om_X0_init
  · exact om_X0_write
  · exact om_X0_signAt
  · exact om_X0_kindOf
  · exact om_X0_numberOf
  · exact om_X0_firstFault
  · exact om_X1_init
  · exact om_X1_copyFrom
  · exact om_X1_doneParts
  · exact om_X1_paintedParts
  · exact om_X1_powersOf
  · exact om_X1_actsWithin
  · exact om_X1_givesAll
  · exact om_X1_partsThatGive
  · exact om_X1_isPicture
  · exact om_X1_canFinish
  · exact om_X1_hoursToPaint
  · exact om_X1_withAllAbove
  · exact om_X1_fallingWith
  · exact om_X1_powersThereAre
  · exact om_X1_whyNot
  · exact om_X1_whyNotPaint
  · exact om_X1_whyNotMake
  · exact om_X1_takeIfItCanBe
  · exact om_X1_paint
  · exact om_X1_unpaint
  · exact om_X1_repeal
  · exact om_X1_paintLeast
  · exact om_X1_addSight
  · exact om_X1_nextSightStep
  · exact om_X1_fitsSightsAt
  · exact om_X1_tellState
  · exact om_X1_tellPart
  · exact om_X2_init
  · exact om_X2_part
  · exact om_X2_needs
  · exact om_X2_say
  · exact om_X2_wipe
  · exact om_X2_fault
  · exact om_X2_judge
  · exact om_X2_done
  · exact om_X2_state
  · exact om_X2_behind
  · exact om_X2_can
  · exact om_X2_lacks
  · exact om_X2_plan
  · exact om_X2_orders
  · exact om_X2_bar
  · exact om_X2_falls
  · exact om_X2_alone
  · exact om_X2_guard
  · exact om_X2_seen
  · exact om_X2_forget
  · exact om_X2_hidden
  · exact om_X2_tries
  · exact om_X2_send
  · exact om_X2_makes
  · exact om_X2_quarrel
  · exact om_X2_sent
  · exact om_X2_turns
  · exact om_X2_fever
  · exact om_X2_year
  · exact om_X2_image
  · exact om_X2_restore
  · exact om_X2_told
  · exact om_X2_isOfEight
  · exact om_X2_isSet
  · exact om_X2_isEitherOne
  · exact om_X2_isColony
  · exact om_X2_tryReign
  · exact om_X2_kindOfDraw
  · exact om_X2_cheapestPlan
  · exact om_X2_fitsPlan
  · exact om_X2_tellPlan
  · exact om_X2_fewestToBar
  · exact om_X2_fewestToGuard
  · exact om_X2_isFewer
  · exact om_X2_tellFewest
  · exact om_X2_clearBySet
  · exact om_X2_findHidden
  · exact om_X2_markAllWithMore
  · exact om_X2_keepThoseSeenAt
  · exact om_X2_countHidden
  · exact om_X2_partsInSomeHidden
  · exact om_X2_partsInAllHidden
  · exact om_X2_mostLeftBy
  · exact om_X2_findWinningParts
  · exact om_X2_winningPart
  · exact om_X2_feverChances
  · exact om_X2_feverHours
  · exact om_X2_feverWeight
  · exact om_X2_choices
  · exact om_X2_power
  · exact om_X2_commonDivisor
  · exact om_X3_init
  · exact om_X3_in
  · exact om_X3_has
  · exact om_X3_bits
  · exact om_X3_isOne
  · exact om_X3_above
  · exact om_X3_part
  · exact om_X3_needs
  · exact om_X3_say
  · exact om_X3_wipe
  · exact om_X3_isPart
  · exact om_X3_faultOf
  · exact om_X3_fault
  · exact om_X3_asNow
  · exact om_X3_doneNow
  · exact om_X3_powers
  · exact om_X3_givesAll
  · exact om_X3_powersNow
  · exact om_X3_whyNoHour
  · exact om_X3_paint
  · exact om_X3_over
  · exact om_X3_whyNoAct
  · exact om_X3_make
  · exact om_X3_goReign
  · exact om_X3_judge
  · exact om_X3_barOfReign
  · exact om_X3_done
  · exact om_X3_stateNow
  · exact om_X3_state
  · exact om_X3_behind
  · exact om_X3_can
  · exact om_X3_isClosed
  · exact om_X3_costOf
  · exact om_X3_cheapest
  · exact om_X3_lacks
  · exact om_X3_plan
  · exact om_X3_orders
  · exact om_X3_begun
  · exact om_X3_bar
  · exact om_X3_falls
  · exact om_X3_aloneFor
  · exact om_X3_alone
  · exact om_X3_guard
  · exact om_X3_seen
  · exact om_X3_forget
  · exact om_X3_layHidden
  · exact om_X3_layStep
  · exact om_X3_hidden
  · exact om_X3_tries
  · exact om_X3_isColony
  · exact om_X3_send
  · exact om_X3_madeBy
  · exact om_X3_makes
  · exact om_X3_quarrel
  · exact om_X3_sent
  · exact om_X3_turns
  · exact om_X3_fever
  · exact om_X3_year
  · exact om_X3_image
  · exact om_X3_restore
  · exact om_X3_told
  · exact om_J6_bitCount_0f7a4
theorem px_T_ok : ∀ j M, px_T j = some M → px_okM px_T M := fun _ M h => px_L0_ok M (List.mem_of_getElem? h)
