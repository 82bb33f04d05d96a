theorem np_X0_init : px_np yX0_init 0 := by unfold px_np; decide +kernel
theorem np_X0_write : px_np yX0_write 1 := by unfold px_np; decide +kernel
theorem np_X0_signAt : px_np yX0_signAt 1 := by unfold px_np; decide +kernel
theorem np_X0_kindOf : px_np yX0_kindOf 1 := by unfold px_np; decide +kernel
theorem np_X0_numberOf : px_np yX0_numberOf 1 := by unfold px_np; decide +kernel
theorem np_X0_firstFault : px_np yX0_firstFault 0 := by unfold px_np; decide +kernel
theorem np_X1_init : px_np yX1_init 0 := by unfold px_np; decide +kernel
theorem np_X1_copyFrom : px_np yX1_copyFrom 1 := by unfold px_np; decide +kernel
theorem np_X1_doneParts : px_np yX1_doneParts 0 := by unfold px_np; decide +kernel
theorem np_X1_paintedParts : px_np yX1_paintedParts 0 := by unfold px_np; decide +kernel
theorem np_X1_powersOf : px_np yX1_powersOf 1 := by unfold px_np; decide +kernel
theorem np_X1_actsWithin : px_np yX1_actsWithin 1 := by unfold px_np; decide +kernel
theorem np_X1_givesAll : px_np yX1_givesAll 2 := by unfold px_np; decide +kernel
theorem np_X1_partsThatGive : px_np yX1_partsThatGive 1 := by unfold px_np; decide +kernel
theorem np_X1_isPicture : px_np yX1_isPicture 1 := by unfold px_np; decide +kernel
theorem np_X1_canFinish : px_np yX1_canFinish 2 := by unfold px_np; decide +kernel
theorem np_X1_hoursToPaint : px_np yX1_hoursToPaint 1 := by unfold px_np; decide +kernel
theorem np_X1_withAllAbove : px_np yX1_withAllAbove 1 := by unfold px_np; decide +kernel
theorem np_X1_fallingWith : px_np yX1_fallingWith 1 := by unfold px_np; decide +kernel
theorem np_X1_powersThereAre : px_np yX1_powersThereAre 0 := by unfold px_np; decide +kernel
theorem np_X1_whyNot : px_np yX1_whyNot 2 := by unfold px_np; decide +kernel
theorem np_X1_whyNotPaint : px_np yX1_whyNotPaint 1 := by unfold px_np; decide +kernel
theorem np_X1_whyNotMake : px_np yX1_whyNotMake 1 := by unfold px_np; decide +kernel
theorem np_X1_takeIfItCanBe : px_np yX1_takeIfItCanBe 2 := by unfold px_np; decide +kernel
theorem np_X1_paint : px_np yX1_paint 1 := by unfold px_np; decide +kernel
theorem np_X1_unpaint : px_np yX1_unpaint 1 := by unfold px_np; decide +kernel
theorem np_X1_repeal : px_np yX1_repeal 0 := by unfold px_np; decide +kernel
theorem np_X1_paintLeast : px_np yX1_paintLeast 0 := by unfold px_np; decide +kernel
theorem np_X1_addSight : px_np yX1_addSight 3 := by unfold px_np; decide +kernel
theorem np_X1_nextSightStep : px_np yX1_nextSightStep 1 := by unfold px_np; decide +kernel
theorem np_X1_fitsSightsAt : px_np yX1_fitsSightsAt 2 := by unfold px_np; decide +kernel
theorem np_X1_tellState : px_np yX1_tellState 1 := by unfold px_np; decide +kernel
theorem np_X1_tellPart : px_np yX1_tellPart 2 := by unfold px_np; decide +kernel
theorem np_X2_init : px_np yX2_init 0 := by unfold px_np; decide +kernel
theorem np_X2_part : px_np yX2_part 4 := by unfold px_np; decide +kernel
theorem np_X2_needs : px_np yX2_needs 2 := by unfold px_np; decide +kernel
theorem np_X2_say : px_np yX2_say 1 := by unfold px_np; decide +kernel
theorem np_X2_wipe : px_np yX2_wipe 0 := by unfold px_np; decide +kernel
theorem np_X2_fault : px_np yX2_fault 0 := by unfold px_np; decide +kernel
theorem np_X2_judge : px_np yX2_judge 1 := by unfold px_np; decide +kernel
theorem np_X2_done : px_np yX2_done 0 := by unfold px_np; decide +kernel
theorem np_X2_state : px_np yX2_state 1 := by unfold px_np; decide +kernel
theorem np_X2_behind : px_np yX2_behind 1 := by unfold px_np; decide +kernel
theorem np_X2_can : px_np yX2_can 0 := by unfold px_np; decide +kernel
theorem np_X2_lacks : px_np yX2_lacks 2 := by unfold px_np; decide +kernel
theorem np_X2_plan : px_np yX2_plan 3 := by unfold px_np; decide +kernel
theorem np_X2_orders : px_np yX2_orders 0 := by unfold px_np; decide +kernel
theorem np_X2_bar : px_np yX2_bar 2 := by unfold px_np; decide +kernel
theorem np_X2_falls : px_np yX2_falls 2 := by unfold px_np; decide +kernel
theorem np_X2_alone : px_np yX2_alone 1 := by unfold px_np; decide +kernel
theorem np_X2_guard : px_np yX2_guard 2 := by unfold px_np; decide +kernel
theorem np_X2_seen : px_np yX2_seen 3 := by unfold px_np; decide +kernel
theorem np_X2_forget : px_np yX2_forget 0 := by unfold px_np; decide +kernel
theorem np_X2_hidden : px_np yX2_hidden 1 := by unfold px_np; decide +kernel
theorem np_X2_tries : px_np yX2_tries 1 := by unfold px_np; decide +kernel
theorem np_X2_send : px_np yX2_send 1 := by unfold px_np; decide +kernel
theorem np_X2_makes : px_np yX2_makes 1 := by unfold px_np; decide +kernel
theorem np_X2_quarrel : px_np yX2_quarrel 2 := by unfold px_np; decide +kernel
theorem np_X2_sent : px_np yX2_sent 0 := by unfold px_np; decide +kernel
theorem np_X2_turns : px_np yX2_turns 2 := by unfold px_np; decide +kernel
theorem np_X2_fever : px_np yX2_fever 5 := by unfold px_np; decide +kernel
theorem np_X2_year : px_np yX2_year 3 := by unfold px_np; decide +kernel
theorem np_X2_image : px_np yX2_image 1 := by unfold px_np; decide +kernel
theorem np_X2_restore : px_np yX2_restore 1 := by unfold px_np; decide +kernel
theorem np_X2_told : px_np yX2_told 1 := by unfold px_np; decide +kernel
theorem np_X2_isOfEight : px_np yX2_isOfEight 1 := by unfold px_np; decide +kernel
theorem np_X2_isSet : px_np yX2_isSet 1 := by unfold px_np; decide +kernel
theorem np_X2_isEitherOne : px_np yX2_isEitherOne 1 := by unfold px_np; decide +kernel
theorem np_X2_isColony : px_np yX2_isColony 1 := by unfold px_np; decide +kernel
theorem np_X2_tryReign : px_np yX2_tryReign 0 := by unfold px_np; decide +kernel
theorem np_X2_kindOfDraw : px_np yX2_kindOfDraw 1 := by unfold px_np; decide +kernel
theorem np_X2_cheapestPlan : px_np yX2_cheapestPlan 2 := by unfold px_np; decide +kernel
theorem np_X2_fitsPlan : px_np yX2_fitsPlan 3 := by unfold px_np; decide +kernel
theorem np_X2_tellPlan : px_np yX2_tellPlan 2 := by unfold px_np; decide +kernel
theorem np_X2_fewestToBar : px_np yX2_fewestToBar 1 := by unfold px_np; decide +kernel
theorem np_X2_fewestToGuard : px_np yX2_fewestToGuard 1 := by unfold px_np; decide +kernel
theorem np_X2_isFewer : px_np yX2_isFewer 2 := by unfold px_np; decide +kernel
theorem np_X2_tellFewest : px_np yX2_tellFewest 2 := by unfold px_np; decide +kernel
theorem np_X2_clearBySet : px_np yX2_clearBySet 0 := by unfold px_np; decide +kernel
theorem np_X2_findHidden : px_np yX2_findHidden 0 := by unfold px_np; decide +kernel
theorem np_X2_markAllWithMore : px_np yX2_markAllWithMore 0 := by unfold px_np; decide +kernel
theorem np_X2_keepThoseSeenAt : px_np yX2_keepThoseSeenAt 1 := by unfold px_np; decide +kernel
theorem np_X2_countHidden : px_np yX2_countHidden 0 := by unfold px_np; decide +kernel
theorem np_X2_partsInSomeHidden : px_np yX2_partsInSomeHidden 0 := by unfold px_np; decide +kernel
theorem np_X2_partsInAllHidden : px_np yX2_partsInAllHidden 0 := by unfold px_np; decide +kernel
theorem np_X2_mostLeftBy : px_np yX2_mostLeftBy 2 := by unfold px_np; decide +kernel
theorem np_X2_findWinningParts : px_np yX2_findWinningParts 1 := by unfold px_np; decide +kernel
theorem np_X2_winningPart : px_np yX2_winningPart 2 := by unfold px_np; decide +kernel
theorem np_X2_feverChances : px_np yX2_feverChances 3 := by unfold px_np; decide +kernel
theorem np_X2_feverHours : px_np yX2_feverHours 2 := by unfold px_np; decide +kernel
theorem np_X2_feverWeight : px_np yX2_feverWeight 3 := by unfold px_np; decide +kernel
theorem np_X2_choices : px_np yX2_choices 2 := by unfold px_np; decide +kernel
theorem np_X2_power : px_np yX2_power 2 := by unfold px_np; decide +kernel
theorem np_X2_commonDivisor : px_np yX2_commonDivisor 2 := by unfold px_np; decide +kernel
theorem np_X3_init : px_np yX3_init 0 := by unfold px_np; decide +kernel
theorem np_X3_in : px_np yX3_in 3 := by unfold px_np; decide +kernel
theorem np_X3_has : px_np yX3_has 2 := by unfold px_np; decide +kernel
theorem np_X3_bits : px_np yX3_bits 1 := by unfold px_np; decide +kernel
theorem np_X3_isOne : px_np yX3_isOne 1 := by unfold px_np; decide +kernel
theorem np_X3_above : px_np yX3_above 1 := by unfold px_np; decide +kernel
theorem np_X3_part : px_np yX3_part 4 := by unfold px_np; decide +kernel
theorem np_X3_needs : px_np yX3_needs 2 := by unfold px_np; decide +kernel
theorem np_X3_say : px_np yX3_say 1 := by unfold px_np; decide +kernel
theorem np_X3_wipe : px_np yX3_wipe 0 := by unfold px_np; decide +kernel
theorem np_X3_isPart : px_np yX3_isPart 1 := by unfold px_np; decide +kernel
theorem np_X3_faultOf : px_np yX3_faultOf 0 := by unfold px_np; decide +kernel
theorem np_X3_fault : px_np yX3_fault 0 := by unfold px_np; decide +kernel
theorem np_X3_asNow : px_np yX3_asNow 0 := by unfold px_np; decide +kernel
theorem np_X3_doneNow : px_np yX3_doneNow 0 := by unfold px_np; decide +kernel
theorem np_X3_powers : px_np yX3_powers 1 := by unfold px_np; decide +kernel
theorem np_X3_givesAll : px_np yX3_givesAll 2 := by unfold px_np; decide +kernel
theorem np_X3_powersNow : px_np yX3_powersNow 0 := by unfold px_np; decide +kernel
theorem np_X3_whyNoHour : px_np yX3_whyNoHour 1 := by unfold px_np; decide +kernel
theorem np_X3_paint : px_np yX3_paint 1 := by unfold px_np; decide +kernel
theorem np_X3_over : px_np yX3_over 1 := by unfold px_np; decide +kernel
theorem np_X3_whyNoAct : px_np yX3_whyNoAct 1 := by unfold px_np; decide +kernel
theorem np_X3_make : px_np yX3_make 1 := by unfold px_np; decide +kernel
theorem np_X3_goReign : px_np yX3_goReign 0 := by unfold px_np; decide +kernel
theorem np_X3_judge : px_np yX3_judge 1 := by unfold px_np; decide +kernel
theorem np_X3_barOfReign : px_np yX3_barOfReign 0 := by unfold px_np; decide +kernel
theorem np_X3_done : px_np yX3_done 0 := by unfold px_np; decide +kernel
theorem np_X3_stateNow : px_np yX3_stateNow 1 := by unfold px_np; decide +kernel
theorem np_X3_state : px_np yX3_state 1 := by unfold px_np; decide +kernel
theorem np_X3_behind : px_np yX3_behind 1 := by unfold px_np; decide +kernel
theorem np_X3_can : px_np yX3_can 0 := by unfold px_np; decide +kernel
theorem np_X3_isClosed : px_np yX3_isClosed 1 := by unfold px_np; decide +kernel
theorem np_X3_costOf : px_np yX3_costOf 1 := by unfold px_np; decide +kernel
theorem np_X3_cheapest : px_np yX3_cheapest 2 := by unfold px_np; decide +kernel
theorem np_X3_lacks : px_np yX3_lacks 2 := by unfold px_np; decide +kernel
theorem np_X3_plan : px_np yX3_plan 3 := by unfold px_np; decide +kernel
theorem np_X3_orders : px_np yX3_orders 0 := by unfold px_np; decide +kernel
theorem np_X3_begun : px_np yX3_begun 0 := by unfold px_np; decide +kernel
theorem np_X3_bar : px_np yX3_bar 2 := by unfold px_np; decide +kernel
theorem np_X3_falls : px_np yX3_falls 2 := by unfold px_np; decide +kernel
theorem np_X3_aloneFor : px_np yX3_aloneFor 1 := by unfold px_np; decide +kernel
theorem np_X3_alone : px_np yX3_alone 1 := by unfold px_np; decide +kernel
theorem np_X3_guard : px_np yX3_guard 2 := by unfold px_np; decide +kernel
theorem np_X3_seen : px_np yX3_seen 3 := by unfold px_np; decide +kernel
theorem np_X3_forget : px_np yX3_forget 0 := by unfold px_np; decide +kernel
theorem np_X3_layHidden : px_np yX3_layHidden 0 := by unfold px_np; decide +kernel
theorem np_X3_layStep : px_np yX3_layStep 1 := by unfold px_np; decide +kernel
theorem np_X3_hidden : px_np yX3_hidden 1 := by unfold px_np; decide +kernel
theorem np_X3_tries : px_np yX3_tries 1 := by unfold px_np; decide +kernel
theorem np_X3_isColony : px_np yX3_isColony 1 := by unfold px_np; decide +kernel
theorem np_X3_send : px_np yX3_send 1 := by unfold px_np; decide +kernel
theorem np_X3_madeBy : px_np yX3_madeBy 1 := by unfold px_np; decide +kernel
theorem np_X3_makes : px_np yX3_makes 1 := by unfold px_np; decide +kernel
theorem np_X3_quarrel : px_np yX3_quarrel 2 := by unfold px_np; decide +kernel
theorem np_X3_sent : px_np yX3_sent 0 := by unfold px_np; decide +kernel
theorem np_X3_turns : px_np yX3_turns 2 := by unfold px_np; decide +kernel
theorem np_X3_fever : px_np yX3_fever 5 := by unfold px_np; decide +kernel
theorem np_X3_year : px_np yX3_year 3 := by unfold px_np; decide +kernel
theorem np_X3_image : px_np yX3_image 1 := by unfold px_np; decide +kernel
theorem np_X3_restore : px_np yX3_restore 1 := by unfold px_np; decide +kernel
theorem np_X3_told : px_np yX3_told 1 := by unfold px_np; decide +kernel
theorem np_J6_bitCount_0f7a4 : px_np yJ6_bitCount_0f7a4 1 := by unfold px_np; decide +kernel
theorem w_84 : (Jvm.Cond.methodLink "PortraitRule$Pad" (3 : Nat) ({ cls := "java/lang/Object", name := "<init>", desc := "()V" } : Jvm.MethodName)) ∈ px_TB := px_TBi (List.mem_append_right _ (List.mem_of_getElem? (i := 84) (by decide +kernel))) rfl
theorem w_14 : (Jvm.Cond.instanceMethod ({ cls := "java/lang/Object", name := "<init>", desc := "()V" } : Jvm.MethodName)) ∈ px_TB := px_TBi (List.mem_append_right _ (List.mem_of_getElem? (i := 14) (by decide +kernel))) rfl
set_option maxRecDepth 20000 in
theorem w_15 : (Jvm.Cond.code ({ cls := "java/lang/Object", name := "<init>", desc := "()V" } : Jvm.MethodName) object_method_1_code (1 : Nat) (Option.none : Option Jvm.ClassFile.FieldType)) ∈ px_TB := px_TBi (List.mem_append_right _ (List.mem_of_getElem? (i := 15) rfl)) rfl
theorem w_85 : (Jvm.Cond.fieldLink "PortraitRule$Pad" (9 : Nat) "PortraitRule$Pad" "signs" "[I") ∈ px_TB := px_TBi (List.mem_append_right _ (List.mem_of_getElem? (i := 85) (by decide +kernel))) rfl
theorem w_86 : (Jvm.Cond.fieldLink "PortraitRule$Pad" (15 : Nat) "PortraitRule$Pad" "count" "I") ∈ px_TB := px_TBi (List.mem_append_right _ (List.mem_of_getElem? (i := 86) (by decide +kernel))) rfl
theorem w_174 : (Jvm.Cond.methodLink "PortraitRule$Pad" (19 : Nat) ({ cls := "PortraitRule$Pad", name := "kindOf", desc := "(I)I" } : Jvm.MethodName)) ∈ px_TB := px_TBi (List.mem_append_right _ (List.mem_of_getElem? (i := 174) (by decide +kernel))) rfl
theorem w_175 : (Jvm.Cond.static ({ cls := "PortraitRule$Pad", name := "kindOf", desc := "(I)I" } : Jvm.MethodName)) ∈ px_TB := px_TBi (List.mem_append_right _ (List.mem_of_getElem? (i := 175) (by decide +kernel))) rfl
theorem w_170 : (Jvm.Cond.methodLink "PortraitRule$Pad" (23 : Nat) ({ cls := "PortraitRule$Pad", name := "signAt", desc := "(I)I" } : Jvm.MethodName)) ∈ px_TB := px_TBi (List.mem_append_right _ (List.mem_of_getElem? (i := 170) (by decide +kernel))) rfl
theorem w_172 : (Jvm.Cond.instanceMethod ({ cls := "PortraitRule$Pad", name := "signAt", desc := "(I)I" } : Jvm.MethodName)) ∈ px_TB := px_TBi (List.mem_append_right _ (List.mem_of_getElem? (i := 172) (by decide +kernel))) rfl
theorem ws_5 : (Jvm.Cond.selects "PortraitRule$Pad" ({ cls := "PortraitRule$Pad", name := "signAt", desc := "(I)I" } : Jvm.MethodName) ({ cls := "PortraitRule$Pad", name := "signAt", desc := "(I)I" } : Jvm.MethodName)) ∈ px_TB := px_TBi (List.mem_append_left _ (List.mem_of_getElem? (i := 5) (by decide +kernel))) rfl
theorem w_21 : (Jvm.Cond.methodLink "PortraitRule$Realm" (3 : Nat) ({ cls := "java/lang/Object", name := "<init>", desc := "()V" } : Jvm.MethodName)) ∈ px_TB := px_TBi (List.mem_append_right _ (List.mem_of_getElem? (i := 21) (by decide +kernel))) rfl
theorem w_22 : (Jvm.Cond.fieldLink "PortraitRule$Realm" (9 : Nat) "PortraitRule$Realm" "hours" "[I") ∈ px_TB := px_TBi (List.mem_append_right _ (List.mem_of_getElem? (i := 22) (by decide +kernel))) rfl
theorem w_24 : (Jvm.Cond.fieldLink "PortraitRule$Realm" (15 : Nat) "PortraitRule$Realm" "under" "[I") ∈ px_TB := px_TBi (List.mem_append_right _ (List.mem_of_getElem? (i := 24) (by decide +kernel))) rfl
theorem w_26 : (Jvm.Cond.fieldLink "PortraitRule$Realm" (18 : Nat) "PortraitRule$Realm" "gives" "[I") ∈ px_TB := px_TBi (List.mem_append_right _ (List.mem_of_getElem? (i := 26) (by decide +kernel))) rfl
theorem w_28 : (Jvm.Cond.fieldLink "PortraitRule$Realm" (21 : Nat) "PortraitRule$Realm" "painted" "[I") ∈ px_TB := px_TBi (List.mem_append_right _ (List.mem_of_getElem? (i := 28) (by decide +kernel))) rfl
theorem w_29 : (Jvm.Cond.fieldLink "PortraitRule$Realm" (24 : Nat) "PortraitRule$Realm" "needed" "[I") ∈ px_TB := px_TBi (List.mem_append_right _ (List.mem_of_getElem? (i := 29) (by decide +kernel))) rfl
theorem w_31 : (Jvm.Cond.fieldLink "PortraitRule$Realm" (27 : Nat) "PortraitRule$Realm" "sightSteps" "[I") ∈ px_TB := px_TBi (List.mem_append_right _ (List.mem_of_getElem? (i := 31) (by decide +kernel))) rfl
theorem w_32 : (Jvm.Cond.fieldLink "PortraitRule$Realm" (30 : Nat) "PortraitRule$Realm" "sightActs" "[I") ∈ px_TB := px_TBi (List.mem_append_right _ (List.mem_of_getElem? (i := 32) (by decide +kernel))) rfl
theorem w_33 : (Jvm.Cond.fieldLink "PortraitRule$Realm" (33 : Nat) "PortraitRule$Realm" "colonies" "[I") ∈ px_TB := px_TBi (List.mem_append_right _ (List.mem_of_getElem? (i := 33) (by decide +kernel))) rfl
theorem w_192 : (Jvm.Cond.methodLink "PortraitRule$Realm" (36 : Nat) ({ cls := "java/lang/System", name := "arraycopy", desc := "(Ljava/lang/Object;ILjava/lang/Object;II)V" } : Jvm.MethodName)) ∈ px_TB := px_TBi (List.mem_append_right _ (List.mem_of_getElem? (i := 192) (by decide +kernel))) rfl
theorem w_194 : (Jvm.Cond.native ({ cls := "java/lang/System", name := "arraycopy", desc := "(Ljava/lang/Object;ILjava/lang/Object;II)V" } : Jvm.MethodName)) ∈ px_TB := px_TBi (List.mem_append_right _ (List.mem_of_getElem? (i := 194) (by decide +kernel))) rfl
theorem w_193 : (Jvm.Cond.static ({ cls := "java/lang/System", name := "arraycopy", desc := "(Ljava/lang/Object;ILjava/lang/Object;II)V" } : Jvm.MethodName)) ∈ px_TB := px_TBi (List.mem_append_right _ (List.mem_of_getElem? (i := 193) (by decide +kernel))) rfl
theorem w_5 : (Jvm.Cond.initialized "java/lang/System") ∈ px_TB := px_TBi (List.mem_append_right _ (List.mem_of_getElem? (i := 5) (by decide +kernel))) rfl
theorem w_35 : (Jvm.Cond.fieldLink "PortraitRule$Realm" (42 : Nat) "PortraitRule$Realm" "inForce" "I") ∈ px_TB := px_TBi (List.mem_append_right _ (List.mem_of_getElem? (i := 35) (by decide +kernel))) rfl
theorem w_37 : (Jvm.Cond.fieldLink "PortraitRule$Realm" (46 : Nat) "PortraitRule$Realm" "sits" "Z") ∈ px_TB := px_TBi (List.mem_append_right _ (List.mem_of_getElem? (i := 37) (by decide +kernel))) rfl
theorem w_38 : (Jvm.Cond.fieldLink "PortraitRule$Realm" (50 : Nat) "PortraitRule$Realm" "sights" "I") ∈ px_TB := px_TBi (List.mem_append_right _ (List.mem_of_getElem? (i := 38) (by decide +kernel))) rfl
theorem w_40 : (Jvm.Cond.fieldLink "PortraitRule$Realm" (53 : Nat) "PortraitRule$Realm" "sightsThatCould" "I") ∈ px_TB := px_TBi (List.mem_append_right _ (List.mem_of_getElem? (i := 40) (by decide +kernel))) rfl
theorem w_41 : (Jvm.Cond.fieldLink "PortraitRule$Realm" (56 : Nat) "PortraitRule$Realm" "hoursPainted" "I") ∈ px_TB := px_TBi (List.mem_append_right _ (List.mem_of_getElem? (i := 41) (by decide +kernel))) rfl
theorem w_43 : (Jvm.Cond.fieldLink "PortraitRule$Realm" (59 : Nat) "PortraitRule$Realm" "actsMade" "I") ∈ px_TB := px_TBi (List.mem_append_right _ (List.mem_of_getElem? (i := 43) (by decide +kernel))) rfl
theorem w_45 : (Jvm.Cond.fieldLink "PortraitRule$Realm" (62 : Nat) "PortraitRule$Realm" "actsRepealed" "I") ∈ px_TB := px_TBi (List.mem_append_right _ (List.mem_of_getElem? (i := 45) (by decide +kernel))) rfl
theorem w_224 : (Jvm.Cond.methodLink "PortraitRule$Realm" (65 : Nat) ({ cls := "PortraitRule$Realm", name := "powersOf", desc := "(I)I" } : Jvm.MethodName)) ∈ px_TB := px_TBi (List.mem_append_right _ (List.mem_of_getElem? (i := 224) (by decide +kernel))) rfl
theorem w_226 : (Jvm.Cond.instanceMethod ({ cls := "PortraitRule$Realm", name := "powersOf", desc := "(I)I" } : Jvm.MethodName)) ∈ px_TB := px_TBi (List.mem_append_right _ (List.mem_of_getElem? (i := 226) (by decide +kernel))) rfl
theorem ws_14 : (Jvm.Cond.selects "PortraitRule$Realm" ({ cls := "PortraitRule$Realm", name := "powersOf", desc := "(I)I" } : Jvm.MethodName) ({ cls := "PortraitRule$Realm", name := "powersOf", desc := "(I)I" } : Jvm.MethodName)) ∈ px_TB := px_TBi (List.mem_append_left _ (List.mem_of_getElem? (i := 14) (by decide +kernel))) rfl
theorem w_138 : (Jvm.Cond.methodLink "PortraitRule$Realm" (69 : Nat) ({ cls := "PortraitRule$Realm", name := "fallingWith", desc := "(I)I" } : Jvm.MethodName)) ∈ px_TB := px_TBi (List.mem_append_right _ (List.mem_of_getElem? (i := 138) (by decide +kernel))) rfl
theorem w_140 : (Jvm.Cond.instanceMethod ({ cls := "PortraitRule$Realm", name := "fallingWith", desc := "(I)I" } : Jvm.MethodName)) ∈ px_TB := px_TBi (List.mem_append_right _ (List.mem_of_getElem? (i := 140) (by decide +kernel))) rfl
theorem ws_1 : (Jvm.Cond.selects "PortraitRule$Realm" ({ cls := "PortraitRule$Realm", name := "fallingWith", desc := "(I)I" } : Jvm.MethodName) ({ cls := "PortraitRule$Realm", name := "fallingWith", desc := "(I)I" } : Jvm.MethodName)) ∈ px_TB := px_TBi (List.mem_append_left _ (List.mem_of_getElem? (i := 1) (by decide +kernel))) rfl
theorem w_212 : (Jvm.Cond.methodLink "PortraitRule$Realm" (72 : Nat) ({ cls := "PortraitRule$Realm", name := "doneParts", desc := "()I" } : Jvm.MethodName)) ∈ px_TB := px_TBi (List.mem_append_right _ (List.mem_of_getElem? (i := 212) (by decide +kernel))) rfl
theorem w_214 : (Jvm.Cond.instanceMethod ({ cls := "PortraitRule$Realm", name := "doneParts", desc := "()I" } : Jvm.MethodName)) ∈ px_TB := px_TBi (List.mem_append_right _ (List.mem_of_getElem? (i := 214) (by decide +kernel))) rfl
theorem ws_11 : (Jvm.Cond.selects "PortraitRule$Realm" ({ cls := "PortraitRule$Realm", name := "doneParts", desc := "()I" } : Jvm.MethodName) ({ cls := "PortraitRule$Realm", name := "doneParts", desc := "()I" } : Jvm.MethodName)) ∈ px_TB := px_TBi (List.mem_append_left _ (List.mem_of_getElem? (i := 11) (by decide +kernel))) rfl
theorem w_208 : (Jvm.Cond.methodLink "PortraitRule$Realm" (76 : Nat) ({ cls := "PortraitRule$Realm", name := "whyNotPaint", desc := "(I)I" } : Jvm.MethodName)) ∈ px_TB := px_TBi (List.mem_append_right _ (List.mem_of_getElem? (i := 208) (by decide +kernel))) rfl
theorem w_210 : (Jvm.Cond.instanceMethod ({ cls := "PortraitRule$Realm", name := "whyNotPaint", desc := "(I)I" } : Jvm.MethodName)) ∈ px_TB := px_TBi (List.mem_append_right _ (List.mem_of_getElem? (i := 210) (by decide +kernel))) rfl
theorem ws_10 : (Jvm.Cond.selects "PortraitRule$Realm" ({ cls := "PortraitRule$Realm", name := "whyNotPaint", desc := "(I)I" } : Jvm.MethodName) ({ cls := "PortraitRule$Realm", name := "whyNotPaint", desc := "(I)I" } : Jvm.MethodName)) ∈ px_TB := px_TBi (List.mem_append_left _ (List.mem_of_getElem? (i := 10) (by decide +kernel))) rfl
theorem w_216 : (Jvm.Cond.methodLink "PortraitRule$Realm" (79 : Nat) ({ cls := "PortraitRule$Realm", name := "whyNotMake", desc := "(I)I" } : Jvm.MethodName)) ∈ px_TB := px_TBi (List.mem_append_right _ (List.mem_of_getElem? (i := 216) (by decide +kernel))) rfl
theorem w_218 : (Jvm.Cond.instanceMethod ({ cls := "PortraitRule$Realm", name := "whyNotMake", desc := "(I)I" } : Jvm.MethodName)) ∈ px_TB := px_TBi (List.mem_append_right _ (List.mem_of_getElem? (i := 218) (by decide +kernel))) rfl
theorem ws_12 : (Jvm.Cond.selects "PortraitRule$Realm" ({ cls := "PortraitRule$Realm", name := "whyNotMake", desc := "(I)I" } : Jvm.MethodName) ({ cls := "PortraitRule$Realm", name := "whyNotMake", desc := "(I)I" } : Jvm.MethodName)) ∈ px_TB := px_TBi (List.mem_append_left _ (List.mem_of_getElem? (i := 12) (by decide +kernel))) rfl
theorem w_220 : (Jvm.Cond.methodLink "PortraitRule$Realm" (82 : Nat) ({ cls := "PortraitRule$Realm", name := "powersThereAre", desc := "()I" } : Jvm.MethodName)) ∈ px_TB := px_TBi (List.mem_append_right _ (List.mem_of_getElem? (i := 220) (by decide +kernel))) rfl
theorem w_222 : (Jvm.Cond.instanceMethod ({ cls := "PortraitRule$Realm", name := "powersThereAre", desc := "()I" } : Jvm.MethodName)) ∈ px_TB := px_TBi (List.mem_append_right _ (List.mem_of_getElem? (i := 222) (by decide +kernel))) rfl
theorem ws_13 : (Jvm.Cond.selects "PortraitRule$Realm" ({ cls := "PortraitRule$Realm", name := "powersThereAre", desc := "()I" } : Jvm.MethodName) ({ cls := "PortraitRule$Realm", name := "powersThereAre", desc := "()I" } : Jvm.MethodName)) ∈ px_TB := px_TBi (List.mem_append_left _ (List.mem_of_getElem? (i := 13) (by decide +kernel))) rfl
theorem w_204 : (Jvm.Cond.methodLink "PortraitRule$Realm" (85 : Nat) ({ cls := "PortraitRule$Realm", name := "whyNot", desc := "(II)I" } : Jvm.MethodName)) ∈ px_TB := px_TBi (List.mem_append_right _ (List.mem_of_getElem? (i := 204) (by decide +kernel))) rfl
theorem w_206 : (Jvm.Cond.instanceMethod ({ cls := "PortraitRule$Realm", name := "whyNot", desc := "(II)I" } : Jvm.MethodName)) ∈ px_TB := px_TBi (List.mem_append_right _ (List.mem_of_getElem? (i := 206) (by decide +kernel))) rfl
theorem ws_9 : (Jvm.Cond.selects "PortraitRule$Realm" ({ cls := "PortraitRule$Realm", name := "whyNot", desc := "(II)I" } : Jvm.MethodName) ({ cls := "PortraitRule$Realm", name := "whyNot", desc := "(II)I" } : Jvm.MethodName)) ∈ px_TB := px_TBi (List.mem_append_left _ (List.mem_of_getElem? (i := 9) (by decide +kernel))) rfl
theorem w_228 : (Jvm.Cond.methodLink "PortraitRule$Realm" (89 : Nat) ({ cls := "PortraitRule$Realm", name := "paint", desc := "(I)V" } : Jvm.MethodName)) ∈ px_TB := px_TBi (List.mem_append_right _ (List.mem_of_getElem? (i := 228) (by decide +kernel))) rfl
theorem w_230 : (Jvm.Cond.instanceMethod ({ cls := "PortraitRule$Realm", name := "paint", desc := "(I)V" } : Jvm.MethodName)) ∈ px_TB := px_TBi (List.mem_append_right _ (List.mem_of_getElem? (i := 230) (by decide +kernel))) rfl
theorem ws_15 : (Jvm.Cond.selects "PortraitRule$Realm" ({ cls := "PortraitRule$Realm", name := "paint", desc := "(I)V" } : Jvm.MethodName) ({ cls := "PortraitRule$Realm", name := "paint", desc := "(I)V" } : Jvm.MethodName)) ∈ px_TB := px_TBi (List.mem_append_left _ (List.mem_of_getElem? (i := 15) (by decide +kernel))) rfl
theorem w_232 : (Jvm.Cond.methodLink "PortraitRule$Realm" (93 : Nat) ({ cls := "PortraitRule$Realm", name := "withAllAbove", desc := "(I)I" } : Jvm.MethodName)) ∈ px_TB := px_TBi (List.mem_append_right _ (List.mem_of_getElem? (i := 232) (by decide +kernel))) rfl
theorem w_136 : (Jvm.Cond.instanceMethod ({ cls := "PortraitRule$Realm", name := "withAllAbove", desc := "(I)I" } : Jvm.MethodName)) ∈ px_TB := px_TBi (List.mem_append_right _ (List.mem_of_getElem? (i := 136) (by decide +kernel))) rfl
theorem ws_0 : (Jvm.Cond.selects "PortraitRule$Realm" ({ cls := "PortraitRule$Realm", name := "withAllAbove", desc := "(I)I" } : Jvm.MethodName) ({ cls := "PortraitRule$Realm", name := "withAllAbove", desc := "(I)I" } : Jvm.MethodName)) ∈ px_TB := px_TBi (List.mem_append_left _ (List.mem_of_getElem? (i := 0) (by decide +kernel))) rfl
theorem w_233 : (Jvm.Cond.methodLink "PortraitRule$Realm" (96 : Nat) ({ cls := "PortraitRule$Realm", name := "unpaint", desc := "(I)V" } : Jvm.MethodName)) ∈ px_TB := px_TBi (List.mem_append_right _ (List.mem_of_getElem? (i := 233) (by decide +kernel))) rfl
theorem w_144 : (Jvm.Cond.instanceMethod ({ cls := "PortraitRule$Realm", name := "unpaint", desc := "(I)V" } : Jvm.MethodName)) ∈ px_TB := px_TBi (List.mem_append_right _ (List.mem_of_getElem? (i := 144) (by decide +kernel))) rfl
theorem ws_2 : (Jvm.Cond.selects "PortraitRule$Realm" ({ cls := "PortraitRule$Realm", name := "unpaint", desc := "(I)V" } : Jvm.MethodName) ({ cls := "PortraitRule$Realm", name := "unpaint", desc := "(I)V" } : Jvm.MethodName)) ∈ px_TB := px_TBi (List.mem_append_left _ (List.mem_of_getElem? (i := 2) (by decide +kernel))) rfl
theorem w_234 : (Jvm.Cond.methodLink "PortraitRule$Realm" (99 : Nat) ({ cls := "PortraitRule$Realm", name := "repeal", desc := "()V" } : Jvm.MethodName)) ∈ px_TB := px_TBi (List.mem_append_right _ (List.mem_of_getElem? (i := 234) (by decide +kernel))) rfl
theorem w_236 : (Jvm.Cond.instanceMethod ({ cls := "PortraitRule$Realm", name := "repeal", desc := "()V" } : Jvm.MethodName)) ∈ px_TB := px_TBi (List.mem_append_right _ (List.mem_of_getElem? (i := 236) (by decide +kernel))) rfl
theorem ws_16 : (Jvm.Cond.selects "PortraitRule$Realm" ({ cls := "PortraitRule$Realm", name := "repeal", desc := "()V" } : Jvm.MethodName) ({ cls := "PortraitRule$Realm", name := "repeal", desc := "()V" } : Jvm.MethodName)) ∈ px_TB := px_TBi (List.mem_append_left _ (List.mem_of_getElem? (i := 16) (by decide +kernel))) rfl
theorem w_238 : (Jvm.Cond.methodLink "PortraitRule$Realm" (102 : Nat) ({ cls := "PortraitRule$Realm", name := "actsWithin", desc := "(I)I" } : Jvm.MethodName)) ∈ px_TB := px_TBi (List.mem_append_right _ (List.mem_of_getElem? (i := 238) (by decide +kernel))) rfl
theorem w_240 : (Jvm.Cond.instanceMethod ({ cls := "PortraitRule$Realm", name := "actsWithin", desc := "(I)I" } : Jvm.MethodName)) ∈ px_TB := px_TBi (List.mem_append_right _ (List.mem_of_getElem? (i := 240) (by decide +kernel))) rfl
theorem ws_17 : (Jvm.Cond.selects "PortraitRule$Realm" ({ cls := "PortraitRule$Realm", name := "actsWithin", desc := "(I)I" } : Jvm.MethodName) ({ cls := "PortraitRule$Realm", name := "actsWithin", desc := "(I)I" } : Jvm.MethodName)) ∈ px_TB := px_TBi (List.mem_append_left _ (List.mem_of_getElem? (i := 17) (by decide +kernel))) rfl
theorem w_242 : (Jvm.Cond.methodLink "PortraitRule$Realm" (105 : Nat) ({ cls := "java/lang/Integer", name := "bitCount", desc := "(I)I" } : Jvm.MethodName)) ∈ px_TB := px_TBi (List.mem_append_right _ (List.mem_of_getElem? (i := 242) (by decide +kernel))) rfl
theorem w_243 : (Jvm.Cond.static ({ cls := "java/lang/Integer", name := "bitCount", desc := "(I)I" } : Jvm.MethodName)) ∈ px_TB := px_TBi (List.mem_append_right _ (List.mem_of_getElem? (i := 243) (by decide +kernel))) rfl
theorem w_13 : (Jvm.Cond.methodLink "PortraitRule" (1 : Nat) ({ cls := "java/lang/Object", name := "<init>", desc := "()V" } : Jvm.MethodName)) ∈ px_TB := px_TBi (List.mem_append_right _ (List.mem_of_getElem? (i := 13) (by decide +kernel))) rfl
theorem w_17 : (Jvm.Cond.instantiable "PortraitRule$Realm" (15 : Nat)) ∈ px_TB := px_TBi (List.mem_append_right _ (List.mem_of_getElem? (i := 17) (by decide +kernel))) rfl
theorem w_16 : (Jvm.Cond.classLink "PortraitRule" (7 : Nat) "PortraitRule$Realm") ∈ px_TB := px_TBi (List.mem_append_right _ (List.mem_of_getElem? (i := 16) (by decide +kernel))) rfl
theorem w_2 : (Jvm.Cond.initialized "PortraitRule$Realm") ∈ px_TB := px_TBi (List.mem_append_right _ (List.mem_of_getElem? (i := 2) (by decide +kernel))) rfl
theorem w_18 : (Jvm.Cond.methodLinkNest "PortraitRule" (9 : Nat) ({ cls := "PortraitRule$Realm", name := "<init>", desc := "()V" } : Jvm.MethodName) "PortraitRule") ∈ px_NW := px_NWi (List.mem_append_right _ (List.mem_of_getElem? (i := 18) (by decide +kernel))) rfl
theorem w_19 : (Jvm.Cond.instanceMethod ({ cls := "PortraitRule$Realm", name := "<init>", desc := "()V" } : Jvm.MethodName)) ∈ px_TB := px_TBi (List.mem_append_right _ (List.mem_of_getElem? (i := 19) (by decide +kernel))) rfl
theorem w_93 : (Jvm.Cond.fieldLink "PortraitRule" (10 : Nat) "PortraitRule" "now" "LPortraitRule$Realm;") ∈ px_TB := px_TBi (List.mem_append_right _ (List.mem_of_getElem? (i := 93) (by decide +kernel))) rfl
theorem w_94 : (Jvm.Cond.fieldLink "PortraitRule" (16 : Nat) "PortraitRule" "trial" "LPortraitRule$Realm;") ∈ px_TB := px_TBi (List.mem_append_right _ (List.mem_of_getElem? (i := 94) (by decide +kernel))) rfl
theorem w_95 : (Jvm.Cond.fieldLink "PortraitRule" (19 : Nat) "PortraitRule" "firstImage" "LPortraitRule$Realm;") ∈ px_TB := px_TBi (List.mem_append_right _ (List.mem_of_getElem? (i := 95) (by decide +kernel))) rfl
theorem w_96 : (Jvm.Cond.fieldLink "PortraitRule" (22 : Nat) "PortraitRule" "secondImage" "LPortraitRule$Realm;") ∈ px_TB := px_TBi (List.mem_append_right _ (List.mem_of_getElem? (i := 96) (by decide +kernel))) rfl
theorem w_80 : (Jvm.Cond.instantiable "PortraitRule$Pad" (2 : Nat)) ∈ px_TB := px_TBi (List.mem_append_right _ (List.mem_of_getElem? (i := 80) (by decide +kernel))) rfl
theorem w_79 : (Jvm.Cond.classLink "PortraitRule" (25 : Nat) "PortraitRule$Pad") ∈ px_TB := px_TBi (List.mem_append_right _ (List.mem_of_getElem? (i := 79) (by decide +kernel))) rfl
theorem w_3 : (Jvm.Cond.initialized "PortraitRule$Pad") ∈ px_TB := px_TBi (List.mem_append_right _ (List.mem_of_getElem? (i := 3) (by decide +kernel))) rfl
theorem w_81 : (Jvm.Cond.methodLinkNest "PortraitRule" (27 : Nat) ({ cls := "PortraitRule$Pad", name := "<init>", desc := "()V" } : Jvm.MethodName) "PortraitRule") ∈ px_NW := px_NWi (List.mem_append_right _ (List.mem_of_getElem? (i := 81) (by decide +kernel))) rfl
theorem w_82 : (Jvm.Cond.instanceMethod ({ cls := "PortraitRule$Pad", name := "<init>", desc := "()V" } : Jvm.MethodName)) ∈ px_TB := px_TBi (List.mem_append_right _ (List.mem_of_getElem? (i := 82) (by decide +kernel))) rfl
theorem w_97 : (Jvm.Cond.fieldLink "PortraitRule" (28 : Nat) "PortraitRule" "pad" "LPortraitRule$Pad;") ∈ px_TB := px_TBi (List.mem_append_right _ (List.mem_of_getElem? (i := 97) (by decide +kernel))) rfl
theorem w_98 : (Jvm.Cond.fieldLink "PortraitRule" (32 : Nat) "PortraitRule" "bySet" "[I") ∈ px_TB := px_TBi (List.mem_append_right _ (List.mem_of_getElem? (i := 98) (by decide +kernel))) rfl
theorem w_128 : (Jvm.Cond.methodLink "PortraitRule" (36 : Nat) ({ cls := "PortraitRule", name := "isOfEight", desc := "(I)Z" } : Jvm.MethodName)) ∈ px_TB := px_TBi (List.mem_append_right _ (List.mem_of_getElem? (i := 128) (by decide +kernel))) rfl
theorem w_129 : (Jvm.Cond.static ({ cls := "PortraitRule", name := "isOfEight", desc := "(I)Z" } : Jvm.MethodName)) ∈ px_TB := px_TBi (List.mem_append_right _ (List.mem_of_getElem? (i := 129) (by decide +kernel))) rfl
theorem w_131 : (Jvm.Cond.methodLink "PortraitRule" (40 : Nat) ({ cls := "PortraitRule", name := "isSet", desc := "(I)Z" } : Jvm.MethodName)) ∈ px_TB := px_TBi (List.mem_append_right _ (List.mem_of_getElem? (i := 131) (by decide +kernel))) rfl
theorem w_132 : (Jvm.Cond.static ({ cls := "PortraitRule", name := "isSet", desc := "(I)Z" } : Jvm.MethodName)) ∈ px_TB := px_TBi (List.mem_append_right _ (List.mem_of_getElem? (i := 132) (by decide +kernel))) rfl
theorem w_23 : (Jvm.Cond.fieldLinkNest "PortraitRule" (43 : Nat) "PortraitRule$Realm" "hours" "[I" "PortraitRule") ∈ px_NW := px_NWi (List.mem_append_right _ (List.mem_of_getElem? (i := 23) (by decide +kernel))) rfl
theorem w_134 : (Jvm.Cond.methodLinkNest "PortraitRule" (46 : Nat) ({ cls := "PortraitRule$Realm", name := "withAllAbove", desc := "(I)I" } : Jvm.MethodName) "PortraitRule") ∈ px_NW := px_NWi (List.mem_append_right _ (List.mem_of_getElem? (i := 134) (by decide +kernel))) rfl
theorem w_142 : (Jvm.Cond.methodLinkNest "PortraitRule" (50 : Nat) ({ cls := "PortraitRule$Realm", name := "unpaint", desc := "(I)V" } : Jvm.MethodName) "PortraitRule") ∈ px_NW := px_NWi (List.mem_append_right _ (List.mem_of_getElem? (i := 142) (by decide +kernel))) rfl
theorem w_25 : (Jvm.Cond.fieldLinkNest "PortraitRule" (54 : Nat) "PortraitRule$Realm" "under" "[I" "PortraitRule") ∈ px_NW := px_NWi (List.mem_append_right _ (List.mem_of_getElem? (i := 25) (by decide +kernel))) rfl
theorem w_27 : (Jvm.Cond.fieldLinkNest "PortraitRule" (57 : Nat) "PortraitRule$Realm" "gives" "[I" "PortraitRule") ∈ px_NW := px_NWi (List.mem_append_right _ (List.mem_of_getElem? (i := 27) (by decide +kernel))) rfl
theorem w_30 : (Jvm.Cond.fieldLinkNest "PortraitRule" (60 : Nat) "PortraitRule$Realm" "needed" "[I" "PortraitRule") ∈ px_NW := px_NWi (List.mem_append_right _ (List.mem_of_getElem? (i := 30) (by decide +kernel))) rfl
theorem w_36 : (Jvm.Cond.fieldLinkNest "PortraitRule" (63 : Nat) "PortraitRule$Realm" "inForce" "I" "PortraitRule") ∈ px_NW := px_NWi (List.mem_append_right _ (List.mem_of_getElem? (i := 36) (by decide +kernel))) rfl
theorem w_87 : (Jvm.Cond.fieldLinkNest "PortraitRule" (67 : Nat) "PortraitRule$Pad" "count" "I" "PortraitRule") ∈ px_NW := px_NWi (List.mem_append_right _ (List.mem_of_getElem? (i := 87) (by decide +kernel))) rfl
theorem w_154 : (Jvm.Cond.methodLinkNest "PortraitRule" (70 : Nat) ({ cls := "PortraitRule$Pad", name := "write", desc := "(I)V" } : Jvm.MethodName) "PortraitRule") ∈ px_NW := px_NWi (List.mem_append_right _ (List.mem_of_getElem? (i := 154) (by decide +kernel))) rfl
theorem w_156 : (Jvm.Cond.instanceMethod ({ cls := "PortraitRule$Pad", name := "write", desc := "(I)V" } : Jvm.MethodName)) ∈ px_TB := px_TBi (List.mem_append_right _ (List.mem_of_getElem? (i := 156) (by decide +kernel))) rfl
theorem ws_3 : (Jvm.Cond.selects "PortraitRule$Pad" ({ cls := "PortraitRule$Pad", name := "write", desc := "(I)V" } : Jvm.MethodName) ({ cls := "PortraitRule$Pad", name := "write", desc := "(I)V" } : Jvm.MethodName)) ∈ px_TB := px_TBi (List.mem_append_left _ (List.mem_of_getElem? (i := 3) (by decide +kernel))) rfl
theorem w_166 : (Jvm.Cond.methodLinkNest "PortraitRule" (73 : Nat) ({ cls := "PortraitRule$Pad", name := "firstFault", desc := "()I" } : Jvm.MethodName) "PortraitRule") ∈ px_NW := px_NWi (List.mem_append_right _ (List.mem_of_getElem? (i := 166) (by decide +kernel))) rfl
theorem w_168 : (Jvm.Cond.instanceMethod ({ cls := "PortraitRule$Pad", name := "firstFault", desc := "()I" } : Jvm.MethodName)) ∈ px_TB := px_TBi (List.mem_append_right _ (List.mem_of_getElem? (i := 168) (by decide +kernel))) rfl
theorem ws_4 : (Jvm.Cond.selects "PortraitRule$Pad" ({ cls := "PortraitRule$Pad", name := "firstFault", desc := "()I" } : Jvm.MethodName) ({ cls := "PortraitRule$Pad", name := "firstFault", desc := "()I" } : Jvm.MethodName)) ∈ px_TB := px_TBi (List.mem_append_left _ (List.mem_of_getElem? (i := 4) (by decide +kernel))) rfl
theorem w_181 : (Jvm.Cond.methodLink "PortraitRule" (77 : Nat) ({ cls := "PortraitRule", name := "isEitherOne", desc := "(I)Z" } : Jvm.MethodName)) ∈ px_TB := px_TBi (List.mem_append_right _ (List.mem_of_getElem? (i := 181) (by decide +kernel))) rfl
theorem w_182 : (Jvm.Cond.static ({ cls := "PortraitRule", name := "isEitherOne", desc := "(I)Z" } : Jvm.MethodName)) ∈ px_TB := px_TBi (List.mem_append_right _ (List.mem_of_getElem? (i := 182) (by decide +kernel))) rfl
theorem w_184 : (Jvm.Cond.methodLink "PortraitRule" (80 : Nat) ({ cls := "PortraitRule", name := "tryReign", desc := "()V" } : Jvm.MethodName)) ∈ px_TB := px_TBi (List.mem_append_right _ (List.mem_of_getElem? (i := 184) (by decide +kernel))) rfl
theorem w_186 : (Jvm.Cond.instanceMethod ({ cls := "PortraitRule", name := "tryReign", desc := "()V" } : Jvm.MethodName)) ∈ px_TB := px_TBi (List.mem_append_right _ (List.mem_of_getElem? (i := 186) (by decide +kernel))) rfl
theorem ws_6 : (Jvm.Cond.selects "PortraitRule" ({ cls := "PortraitRule", name := "tryReign", desc := "()V" } : Jvm.MethodName) ({ cls := "PortraitRule", name := "tryReign", desc := "()V" } : Jvm.MethodName)) ∈ px_TB := px_TBi (List.mem_append_left _ (List.mem_of_getElem? (i := 6) (by decide +kernel))) rfl
theorem w_101 : (Jvm.Cond.fieldLink "PortraitRule" (83 : Nat) "PortraitRule" "reason" "I") ∈ px_TB := px_TBi (List.mem_append_right _ (List.mem_of_getElem? (i := 101) (by decide +kernel))) rfl
theorem w_102 : (Jvm.Cond.fieldLink "PortraitRule" (86 : Nat) "PortraitRule" "stepsTaken" "I") ∈ px_TB := px_TBi (List.mem_append_right _ (List.mem_of_getElem? (i := 102) (by decide +kernel))) rfl
theorem w_188 : (Jvm.Cond.methodLinkNest "PortraitRule" (89 : Nat) ({ cls := "PortraitRule$Realm", name := "copyFrom", desc := "(LPortraitRule$Realm;)V" } : Jvm.MethodName) "PortraitRule") ∈ px_NW := px_NWi (List.mem_append_right _ (List.mem_of_getElem? (i := 188) (by decide +kernel))) rfl
theorem w_190 : (Jvm.Cond.instanceMethod ({ cls := "PortraitRule$Realm", name := "copyFrom", desc := "(LPortraitRule$Realm;)V" } : Jvm.MethodName)) ∈ px_TB := px_TBi (List.mem_append_right _ (List.mem_of_getElem? (i := 190) (by decide +kernel))) rfl
theorem ws_7 : (Jvm.Cond.selects "PortraitRule$Realm" ({ cls := "PortraitRule$Realm", name := "copyFrom", desc := "(LPortraitRule$Realm;)V" } : Jvm.MethodName) ({ cls := "PortraitRule$Realm", name := "copyFrom", desc := "(LPortraitRule$Realm;)V" } : Jvm.MethodName)) ∈ px_TB := px_TBi (List.mem_append_left _ (List.mem_of_getElem? (i := 7) (by decide +kernel))) rfl
theorem w_256 : (Jvm.Cond.methodLinkNest "PortraitRule" (93 : Nat) ({ cls := "PortraitRule$Realm", name := "tellState", desc := "(I)I" } : Jvm.MethodName) "PortraitRule") ∈ px_NW := px_NWi (List.mem_append_right _ (List.mem_of_getElem? (i := 256) (by decide +kernel))) rfl
theorem w_258 : (Jvm.Cond.instanceMethod ({ cls := "PortraitRule$Realm", name := "tellState", desc := "(I)I" } : Jvm.MethodName)) ∈ px_TB := px_TBi (List.mem_append_right _ (List.mem_of_getElem? (i := 258) (by decide +kernel))) rfl
theorem ws_18 : (Jvm.Cond.selects "PortraitRule$Realm" ({ cls := "PortraitRule$Realm", name := "tellState", desc := "(I)I" } : Jvm.MethodName) ({ cls := "PortraitRule$Realm", name := "tellState", desc := "(I)I" } : Jvm.MethodName)) ∈ px_TB := px_TBi (List.mem_append_left _ (List.mem_of_getElem? (i := 18) (by decide +kernel))) rfl
theorem w_42 : (Jvm.Cond.fieldLinkNest "PortraitRule" (96 : Nat) "PortraitRule$Realm" "hoursPainted" "I" "PortraitRule") ∈ px_NW := px_NWi (List.mem_append_right _ (List.mem_of_getElem? (i := 42) (by decide +kernel))) rfl
theorem w_46 : (Jvm.Cond.fieldLinkNest "PortraitRule" (99 : Nat) "PortraitRule$Realm" "actsRepealed" "I" "PortraitRule") ∈ px_NW := px_NWi (List.mem_append_right _ (List.mem_of_getElem? (i := 46) (by decide +kernel))) rfl
theorem w_268 : (Jvm.Cond.methodLinkNest "PortraitRule" (102 : Nat) ({ cls := "PortraitRule$Realm", name := "whyNot", desc := "(II)I" } : Jvm.MethodName) "PortraitRule") ∈ px_NW := px_NWi (List.mem_append_right _ (List.mem_of_getElem? (i := 268) (by decide +kernel))) rfl
theorem w_273 : (Jvm.Cond.methodLink "PortraitRule" (106 : Nat) ({ cls := "PortraitRule", name := "cheapestPlan", desc := "(II)I" } : Jvm.MethodName)) ∈ px_TB := px_TBi (List.mem_append_right _ (List.mem_of_getElem? (i := 273) (by decide +kernel))) rfl
theorem w_275 : (Jvm.Cond.instanceMethod ({ cls := "PortraitRule", name := "cheapestPlan", desc := "(II)I" } : Jvm.MethodName)) ∈ px_TB := px_TBi (List.mem_append_right _ (List.mem_of_getElem? (i := 275) (by decide +kernel))) rfl
theorem ws_19 : (Jvm.Cond.selects "PortraitRule" ({ cls := "PortraitRule", name := "cheapestPlan", desc := "(II)I" } : Jvm.MethodName) ({ cls := "PortraitRule", name := "cheapestPlan", desc := "(II)I" } : Jvm.MethodName)) ∈ px_TB := px_TBi (List.mem_append_left _ (List.mem_of_getElem? (i := 19) (by decide +kernel))) rfl
theorem w_292 : (Jvm.Cond.methodLink "PortraitRule" (109 : Nat) ({ cls := "PortraitRule", name := "tellPlan", desc := "(II)I" } : Jvm.MethodName)) ∈ px_TB := px_TBi (List.mem_append_right _ (List.mem_of_getElem? (i := 292) (by decide +kernel))) rfl
theorem w_294 : (Jvm.Cond.instanceMethod ({ cls := "PortraitRule", name := "tellPlan", desc := "(II)I" } : Jvm.MethodName)) ∈ px_TB := px_TBi (List.mem_append_right _ (List.mem_of_getElem? (i := 294) (by decide +kernel))) rfl
theorem ws_23 : (Jvm.Cond.selects "PortraitRule" ({ cls := "PortraitRule", name := "tellPlan", desc := "(II)I" } : Jvm.MethodName) ({ cls := "PortraitRule", name := "tellPlan", desc := "(II)I" } : Jvm.MethodName)) ∈ px_TB := px_TBi (List.mem_append_left _ (List.mem_of_getElem? (i := 23) (by decide +kernel))) rfl
theorem w_304 : (Jvm.Cond.methodLink "PortraitRule" (112 : Nat) ({ cls := "PortraitRule", name := "clearBySet", desc := "()V" } : Jvm.MethodName)) ∈ px_TB := px_TBi (List.mem_append_right _ (List.mem_of_getElem? (i := 304) (by decide +kernel))) rfl
theorem w_306 : (Jvm.Cond.instanceMethod ({ cls := "PortraitRule", name := "clearBySet", desc := "()V" } : Jvm.MethodName)) ∈ px_TB := px_TBi (List.mem_append_right _ (List.mem_of_getElem? (i := 306) (by decide +kernel))) rfl
theorem ws_24 : (Jvm.Cond.selects "PortraitRule" ({ cls := "PortraitRule", name := "clearBySet", desc := "()V" } : Jvm.MethodName) ({ cls := "PortraitRule", name := "clearBySet", desc := "()V" } : Jvm.MethodName)) ∈ px_TB := px_TBi (List.mem_append_left _ (List.mem_of_getElem? (i := 24) (by decide +kernel))) rfl
theorem w_277 : (Jvm.Cond.methodLinkNest "PortraitRule" (115 : Nat) ({ cls := "PortraitRule$Realm", name := "doneParts", desc := "()I" } : Jvm.MethodName) "PortraitRule") ∈ px_NW := px_NWi (List.mem_append_right _ (List.mem_of_getElem? (i := 277) (by decide +kernel))) rfl
theorem w_308 : (Jvm.Cond.methodLinkNest "PortraitRule" (118 : Nat) ({ cls := "PortraitRule$Realm", name := "canFinish", desc := "(II)Z" } : Jvm.MethodName) "PortraitRule") ∈ px_NW := px_NWi (List.mem_append_right _ (List.mem_of_getElem? (i := 308) (by decide +kernel))) rfl
theorem w_310 : (Jvm.Cond.instanceMethod ({ cls := "PortraitRule$Realm", name := "canFinish", desc := "(II)Z" } : Jvm.MethodName)) ∈ px_TB := px_TBi (List.mem_append_right _ (List.mem_of_getElem? (i := 310) (by decide +kernel))) rfl
theorem ws_25 : (Jvm.Cond.selects "PortraitRule$Realm" ({ cls := "PortraitRule$Realm", name := "canFinish", desc := "(II)Z" } : Jvm.MethodName) ({ cls := "PortraitRule$Realm", name := "canFinish", desc := "(II)Z" } : Jvm.MethodName)) ∈ px_TB := px_TBi (List.mem_append_left _ (List.mem_of_getElem? (i := 25) (by decide +kernel))) rfl
theorem w_316 : (Jvm.Cond.methodLink "PortraitRule" (122 : Nat) ({ cls := "PortraitRule", name := "fewestToBar", desc := "(I)I" } : Jvm.MethodName)) ∈ px_TB := px_TBi (List.mem_append_right _ (List.mem_of_getElem? (i := 316) (by decide +kernel))) rfl
theorem w_318 : (Jvm.Cond.instanceMethod ({ cls := "PortraitRule", name := "fewestToBar", desc := "(I)I" } : Jvm.MethodName)) ∈ px_TB := px_TBi (List.mem_append_right _ (List.mem_of_getElem? (i := 318) (by decide +kernel))) rfl
theorem ws_26 : (Jvm.Cond.selects "PortraitRule" ({ cls := "PortraitRule", name := "fewestToBar", desc := "(I)I" } : Jvm.MethodName) ({ cls := "PortraitRule", name := "fewestToBar", desc := "(I)I" } : Jvm.MethodName)) ∈ px_TB := px_TBi (List.mem_append_left _ (List.mem_of_getElem? (i := 26) (by decide +kernel))) rfl
theorem w_329 : (Jvm.Cond.methodLink "PortraitRule" (125 : Nat) ({ cls := "PortraitRule", name := "tellFewest", desc := "(II)I" } : Jvm.MethodName)) ∈ px_TB := px_TBi (List.mem_append_right _ (List.mem_of_getElem? (i := 329) (by decide +kernel))) rfl
theorem w_330 : (Jvm.Cond.static ({ cls := "PortraitRule", name := "tellFewest", desc := "(II)I" } : Jvm.MethodName)) ∈ px_TB := px_TBi (List.mem_append_right _ (List.mem_of_getElem? (i := 330) (by decide +kernel))) rfl
theorem w_336 : (Jvm.Cond.methodLinkNest "PortraitRule" (128 : Nat) ({ cls := "PortraitRule$Realm", name := "paintedParts", desc := "()I" } : Jvm.MethodName) "PortraitRule") ∈ px_NW := px_NWi (List.mem_append_right _ (List.mem_of_getElem? (i := 336) (by decide +kernel))) rfl
theorem w_338 : (Jvm.Cond.instanceMethod ({ cls := "PortraitRule$Realm", name := "paintedParts", desc := "()I" } : Jvm.MethodName)) ∈ px_TB := px_TBi (List.mem_append_right _ (List.mem_of_getElem? (i := 338) (by decide +kernel))) rfl
theorem ws_28 : (Jvm.Cond.selects "PortraitRule$Realm" ({ cls := "PortraitRule$Realm", name := "paintedParts", desc := "()I" } : Jvm.MethodName) ({ cls := "PortraitRule$Realm", name := "paintedParts", desc := "()I" } : Jvm.MethodName)) ∈ px_TB := px_TBi (List.mem_append_left _ (List.mem_of_getElem? (i := 28) (by decide +kernel))) rfl
theorem w_286 : (Jvm.Cond.methodLinkNest "PortraitRule" (131 : Nat) ({ cls := "PortraitRule$Realm", name := "powersOf", desc := "(I)I" } : Jvm.MethodName) "PortraitRule") ∈ px_NW := px_NWi (List.mem_append_right _ (List.mem_of_getElem? (i := 286) (by decide +kernel))) rfl
theorem w_344 : (Jvm.Cond.methodLinkNest "PortraitRule" (134 : Nat) ({ cls := "PortraitRule$Realm", name := "partsThatGive", desc := "(I)I" } : Jvm.MethodName) "PortraitRule") ∈ px_NW := px_NWi (List.mem_append_right _ (List.mem_of_getElem? (i := 344) (by decide +kernel))) rfl
theorem w_346 : (Jvm.Cond.instanceMethod ({ cls := "PortraitRule$Realm", name := "partsThatGive", desc := "(I)I" } : Jvm.MethodName)) ∈ px_TB := px_TBi (List.mem_append_right _ (List.mem_of_getElem? (i := 346) (by decide +kernel))) rfl
theorem ws_29 : (Jvm.Cond.selects "PortraitRule$Realm" ({ cls := "PortraitRule$Realm", name := "partsThatGive", desc := "(I)I" } : Jvm.MethodName) ({ cls := "PortraitRule$Realm", name := "partsThatGive", desc := "(I)I" } : Jvm.MethodName)) ∈ px_TB := px_TBi (List.mem_append_left _ (List.mem_of_getElem? (i := 29) (by decide +kernel))) rfl
theorem w_352 : (Jvm.Cond.methodLink "PortraitRule" (137 : Nat) ({ cls := "PortraitRule", name := "fewestToGuard", desc := "(I)I" } : Jvm.MethodName)) ∈ px_TB := px_TBi (List.mem_append_right _ (List.mem_of_getElem? (i := 352) (by decide +kernel))) rfl
theorem w_354 : (Jvm.Cond.instanceMethod ({ cls := "PortraitRule", name := "fewestToGuard", desc := "(I)I" } : Jvm.MethodName)) ∈ px_TB := px_TBi (List.mem_append_right _ (List.mem_of_getElem? (i := 354) (by decide +kernel))) rfl
theorem ws_30 : (Jvm.Cond.selects "PortraitRule" ({ cls := "PortraitRule", name := "fewestToGuard", desc := "(I)I" } : Jvm.MethodName) ({ cls := "PortraitRule", name := "fewestToGuard", desc := "(I)I" } : Jvm.MethodName)) ∈ px_TB := px_TBi (List.mem_append_left _ (List.mem_of_getElem? (i := 30) (by decide +kernel))) rfl
theorem w_39 : (Jvm.Cond.fieldLinkNest "PortraitRule" (140 : Nat) "PortraitRule$Realm" "sights" "I" "PortraitRule") ∈ px_NW := px_NWi (List.mem_append_right _ (List.mem_of_getElem? (i := 39) (by decide +kernel))) rfl
theorem w_360 : (Jvm.Cond.methodLinkNest "PortraitRule" (143 : Nat) ({ cls := "PortraitRule$Realm", name := "addSight", desc := "(IIZ)V" } : Jvm.MethodName) "PortraitRule") ∈ px_NW := px_NWi (List.mem_append_right _ (List.mem_of_getElem? (i := 360) (by decide +kernel))) rfl
theorem w_362 : (Jvm.Cond.instanceMethod ({ cls := "PortraitRule$Realm", name := "addSight", desc := "(IIZ)V" } : Jvm.MethodName)) ∈ px_TB := px_TBi (List.mem_append_right _ (List.mem_of_getElem? (i := 362) (by decide +kernel))) rfl
theorem ws_31 : (Jvm.Cond.selects "PortraitRule$Realm" ({ cls := "PortraitRule$Realm", name := "addSight", desc := "(IIZ)V" } : Jvm.MethodName) ({ cls := "PortraitRule$Realm", name := "addSight", desc := "(IIZ)V" } : Jvm.MethodName)) ∈ px_TB := px_TBi (List.mem_append_left _ (List.mem_of_getElem? (i := 31) (by decide +kernel))) rfl
theorem w_372 : (Jvm.Cond.methodLink "PortraitRule" (147 : Nat) ({ cls := "PortraitRule", name := "findHidden", desc := "()V" } : Jvm.MethodName)) ∈ px_TB := px_TBi (List.mem_append_right _ (List.mem_of_getElem? (i := 372) (by decide +kernel))) rfl
theorem w_374 : (Jvm.Cond.instanceMethod ({ cls := "PortraitRule", name := "findHidden", desc := "()V" } : Jvm.MethodName)) ∈ px_TB := px_TBi (List.mem_append_right _ (List.mem_of_getElem? (i := 374) (by decide +kernel))) rfl
theorem ws_32 : (Jvm.Cond.selects "PortraitRule" ({ cls := "PortraitRule", name := "findHidden", desc := "()V" } : Jvm.MethodName) ({ cls := "PortraitRule", name := "findHidden", desc := "()V" } : Jvm.MethodName)) ∈ px_TB := px_TBi (List.mem_append_left _ (List.mem_of_getElem? (i := 32) (by decide +kernel))) rfl
theorem w_392 : (Jvm.Cond.methodLink "PortraitRule" (150 : Nat) ({ cls := "PortraitRule", name := "countHidden", desc := "()I" } : Jvm.MethodName)) ∈ px_TB := px_TBi (List.mem_append_right _ (List.mem_of_getElem? (i := 392) (by decide +kernel))) rfl
theorem w_394 : (Jvm.Cond.instanceMethod ({ cls := "PortraitRule", name := "countHidden", desc := "()I" } : Jvm.MethodName)) ∈ px_TB := px_TBi (List.mem_append_right _ (List.mem_of_getElem? (i := 394) (by decide +kernel))) rfl
theorem ws_37 : (Jvm.Cond.selects "PortraitRule" ({ cls := "PortraitRule", name := "countHidden", desc := "()I" } : Jvm.MethodName) ({ cls := "PortraitRule", name := "countHidden", desc := "()I" } : Jvm.MethodName)) ∈ px_TB := px_TBi (List.mem_append_left _ (List.mem_of_getElem? (i := 37) (by decide +kernel))) rfl
theorem w_396 : (Jvm.Cond.methodLink "PortraitRule" (153 : Nat) ({ cls := "PortraitRule", name := "partsInAllHidden", desc := "()I" } : Jvm.MethodName)) ∈ px_TB := px_TBi (List.mem_append_right _ (List.mem_of_getElem? (i := 396) (by decide +kernel))) rfl
theorem w_398 : (Jvm.Cond.instanceMethod ({ cls := "PortraitRule", name := "partsInAllHidden", desc := "()I" } : Jvm.MethodName)) ∈ px_TB := px_TBi (List.mem_append_right _ (List.mem_of_getElem? (i := 398) (by decide +kernel))) rfl
theorem ws_38 : (Jvm.Cond.selects "PortraitRule" ({ cls := "PortraitRule", name := "partsInAllHidden", desc := "()I" } : Jvm.MethodName) ({ cls := "PortraitRule", name := "partsInAllHidden", desc := "()I" } : Jvm.MethodName)) ∈ px_TB := px_TBi (List.mem_append_left _ (List.mem_of_getElem? (i := 38) (by decide +kernel))) rfl
theorem w_400 : (Jvm.Cond.methodLink "PortraitRule" (156 : Nat) ({ cls := "PortraitRule", name := "partsInSomeHidden", desc := "()I" } : Jvm.MethodName)) ∈ px_TB := px_TBi (List.mem_append_right _ (List.mem_of_getElem? (i := 400) (by decide +kernel))) rfl
theorem w_402 : (Jvm.Cond.instanceMethod ({ cls := "PortraitRule", name := "partsInSomeHidden", desc := "()I" } : Jvm.MethodName)) ∈ px_TB := px_TBi (List.mem_append_right _ (List.mem_of_getElem? (i := 402) (by decide +kernel))) rfl
theorem ws_39 : (Jvm.Cond.selects "PortraitRule" ({ cls := "PortraitRule", name := "partsInSomeHidden", desc := "()I" } : Jvm.MethodName) ({ cls := "PortraitRule", name := "partsInSomeHidden", desc := "()I" } : Jvm.MethodName)) ∈ px_TB := px_TBi (List.mem_append_left _ (List.mem_of_getElem? (i := 39) (by decide +kernel))) rfl
theorem w_408 : (Jvm.Cond.methodLink "PortraitRule" (159 : Nat) ({ cls := "PortraitRule", name := "mostLeftBy", desc := "(II)I" } : Jvm.MethodName)) ∈ px_TB := px_TBi (List.mem_append_right _ (List.mem_of_getElem? (i := 408) (by decide +kernel))) rfl
theorem w_410 : (Jvm.Cond.instanceMethod ({ cls := "PortraitRule", name := "mostLeftBy", desc := "(II)I" } : Jvm.MethodName)) ∈ px_TB := px_TBi (List.mem_append_right _ (List.mem_of_getElem? (i := 410) (by decide +kernel))) rfl
theorem ws_40 : (Jvm.Cond.selects "PortraitRule" ({ cls := "PortraitRule", name := "mostLeftBy", desc := "(II)I" } : Jvm.MethodName) ({ cls := "PortraitRule", name := "mostLeftBy", desc := "(II)I" } : Jvm.MethodName)) ∈ px_TB := px_TBi (List.mem_append_left _ (List.mem_of_getElem? (i := 40) (by decide +kernel))) rfl
theorem w_419 : (Jvm.Cond.methodLink "PortraitRule" (162 : Nat) ({ cls := "PortraitRule", name := "isColony", desc := "(I)Z" } : Jvm.MethodName)) ∈ px_TB := px_TBi (List.mem_append_right _ (List.mem_of_getElem? (i := 419) (by decide +kernel))) rfl
theorem w_420 : (Jvm.Cond.static ({ cls := "PortraitRule", name := "isColony", desc := "(I)Z" } : Jvm.MethodName)) ∈ px_TB := px_TBi (List.mem_append_right _ (List.mem_of_getElem? (i := 420) (by decide +kernel))) rfl
theorem w_34 : (Jvm.Cond.fieldLinkNest "PortraitRule" (165 : Nat) "PortraitRule$Realm" "colonies" "[I" "PortraitRule") ∈ px_NW := px_NWi (List.mem_append_right _ (List.mem_of_getElem? (i := 34) (by decide +kernel))) rfl
theorem w_287 : (Jvm.Cond.methodLinkNest "PortraitRule" (168 : Nat) ({ cls := "PortraitRule$Realm", name := "actsWithin", desc := "(I)I" } : Jvm.MethodName) "PortraitRule") ∈ px_NW := px_NWi (List.mem_append_right _ (List.mem_of_getElem? (i := 287) (by decide +kernel))) rfl
theorem w_320 : (Jvm.Cond.methodLinkNest "PortraitRule" (171 : Nat) ({ cls := "PortraitRule$Realm", name := "givesAll", desc := "(II)Z" } : Jvm.MethodName) "PortraitRule") ∈ px_NW := px_NWi (List.mem_append_right _ (List.mem_of_getElem? (i := 320) (by decide +kernel))) rfl
theorem w_322 : (Jvm.Cond.instanceMethod ({ cls := "PortraitRule$Realm", name := "givesAll", desc := "(II)Z" } : Jvm.MethodName)) ∈ px_TB := px_TBi (List.mem_append_right _ (List.mem_of_getElem? (i := 322) (by decide +kernel))) rfl
theorem ws_27 : (Jvm.Cond.selects "PortraitRule$Realm" ({ cls := "PortraitRule$Realm", name := "givesAll", desc := "(II)Z" } : Jvm.MethodName) ({ cls := "PortraitRule$Realm", name := "givesAll", desc := "(II)Z" } : Jvm.MethodName)) ∈ px_TB := px_TBi (List.mem_append_left _ (List.mem_of_getElem? (i := 27) (by decide +kernel))) rfl
theorem w_438 : (Jvm.Cond.methodLink "PortraitRule" (174 : Nat) ({ cls := "PortraitRule", name := "findWinningParts", desc := "(I)V" } : Jvm.MethodName)) ∈ px_TB := px_TBi (List.mem_append_right _ (List.mem_of_getElem? (i := 438) (by decide +kernel))) rfl
theorem w_440 : (Jvm.Cond.instanceMethod ({ cls := "PortraitRule", name := "findWinningParts", desc := "(I)V" } : Jvm.MethodName)) ∈ px_TB := px_TBi (List.mem_append_right _ (List.mem_of_getElem? (i := 440) (by decide +kernel))) rfl
theorem ws_41 : (Jvm.Cond.selects "PortraitRule" ({ cls := "PortraitRule", name := "findWinningParts", desc := "(I)V" } : Jvm.MethodName) ({ cls := "PortraitRule", name := "findWinningParts", desc := "(I)V" } : Jvm.MethodName)) ∈ px_TB := px_TBi (List.mem_append_left _ (List.mem_of_getElem? (i := 41) (by decide +kernel))) rfl
theorem w_450 : (Jvm.Cond.constantLong "PortraitRule" (177 : Nat) (-1000000000000000001 : Int64)) ∈ px_TB := px_TBi (List.mem_append_right _ (List.mem_of_getElem? (i := 450) (by decide +kernel))) rfl
theorem w_451 : (Jvm.Cond.constantLong "PortraitRule" (179 : Nat) (-1000000000000000002 : Int64)) ∈ px_TB := px_TBi (List.mem_append_right _ (List.mem_of_getElem? (i := 451) (by decide +kernel))) rfl
theorem w_452 : (Jvm.Cond.methodLink "PortraitRule" (181 : Nat) ({ cls := "PortraitRule", name := "feverChances", desc := "(III)J" } : Jvm.MethodName)) ∈ px_TB := px_TBi (List.mem_append_right _ (List.mem_of_getElem? (i := 452) (by decide +kernel))) rfl
theorem w_454 : (Jvm.Cond.instanceMethod ({ cls := "PortraitRule", name := "feverChances", desc := "(III)J" } : Jvm.MethodName)) ∈ px_TB := px_TBi (List.mem_append_right _ (List.mem_of_getElem? (i := 454) (by decide +kernel))) rfl
theorem ws_43 : (Jvm.Cond.selects "PortraitRule" ({ cls := "PortraitRule", name := "feverChances", desc := "(III)J" } : Jvm.MethodName) ({ cls := "PortraitRule", name := "feverChances", desc := "(III)J" } : Jvm.MethodName)) ∈ px_TB := px_TBi (List.mem_append_left _ (List.mem_of_getElem? (i := 43) (by decide +kernel))) rfl
theorem w_469 : (Jvm.Cond.methodLink "PortraitRule" (185 : Nat) ({ cls := "PortraitRule", name := "feverHours", desc := "(II)J" } : Jvm.MethodName)) ∈ px_TB := px_TBi (List.mem_append_right _ (List.mem_of_getElem? (i := 469) (by decide +kernel))) rfl
theorem w_471 : (Jvm.Cond.instanceMethod ({ cls := "PortraitRule", name := "feverHours", desc := "(II)J" } : Jvm.MethodName)) ∈ px_TB := px_TBi (List.mem_append_right _ (List.mem_of_getElem? (i := 471) (by decide +kernel))) rfl
theorem ws_45 : (Jvm.Cond.selects "PortraitRule" ({ cls := "PortraitRule", name := "feverHours", desc := "(II)J" } : Jvm.MethodName) ({ cls := "PortraitRule", name := "feverHours", desc := "(II)J" } : Jvm.MethodName)) ∈ px_TB := px_TBi (List.mem_append_left _ (List.mem_of_getElem? (i := 45) (by decide +kernel))) rfl
theorem w_462 : (Jvm.Cond.methodLink "PortraitRule" (189 : Nat) ({ cls := "PortraitRule", name := "power", desc := "(II)J" } : Jvm.MethodName)) ∈ px_TB := px_TBi (List.mem_append_right _ (List.mem_of_getElem? (i := 462) (by decide +kernel))) rfl
theorem w_463 : (Jvm.Cond.static ({ cls := "PortraitRule", name := "power", desc := "(II)J" } : Jvm.MethodName)) ∈ px_TB := px_TBi (List.mem_append_right _ (List.mem_of_getElem? (i := 463) (by decide +kernel))) rfl
theorem w_473 : (Jvm.Cond.methodLink "PortraitRule" (192 : Nat) ({ cls := "PortraitRule", name := "commonDivisor", desc := "(JJ)J" } : Jvm.MethodName)) ∈ px_TB := px_TBi (List.mem_append_right _ (List.mem_of_getElem? (i := 473) (by decide +kernel))) rfl
theorem w_474 : (Jvm.Cond.static ({ cls := "PortraitRule", name := "commonDivisor", desc := "(JJ)J" } : Jvm.MethodName)) ∈ px_TB := px_TBi (List.mem_append_right _ (List.mem_of_getElem? (i := 474) (by decide +kernel))) rfl
theorem w_480 : (Jvm.Cond.constant "PortraitRule" (196 : Nat) (65537 : Int32)) ∈ px_TB := px_TBi (List.mem_append_right _ (List.mem_of_getElem? (i := 480) (by decide +kernel))) rfl
theorem w_481 : (Jvm.Cond.methodLink "PortraitRule" (197 : Nat) ({ cls := "PortraitRule", name := "kindOfDraw", desc := "(I)I" } : Jvm.MethodName)) ∈ px_TB := px_TBi (List.mem_append_right _ (List.mem_of_getElem? (i := 481) (by decide +kernel))) rfl
theorem w_482 : (Jvm.Cond.static ({ cls := "PortraitRule", name := "kindOfDraw", desc := "(I)I" } : Jvm.MethodName)) ∈ px_TB := px_TBi (List.mem_append_right _ (List.mem_of_getElem? (i := 482) (by decide +kernel))) rfl
theorem w_200 : (Jvm.Cond.methodLinkNest "PortraitRule" (200 : Nat) ({ cls := "PortraitRule$Realm", name := "takeIfItCanBe", desc := "(II)I" } : Jvm.MethodName) "PortraitRule") ∈ px_NW := px_NWi (List.mem_append_right _ (List.mem_of_getElem? (i := 200) (by decide +kernel))) rfl
theorem w_202 : (Jvm.Cond.instanceMethod ({ cls := "PortraitRule$Realm", name := "takeIfItCanBe", desc := "(II)I" } : Jvm.MethodName)) ∈ px_TB := px_TBi (List.mem_append_right _ (List.mem_of_getElem? (i := 202) (by decide +kernel))) rfl
theorem ws_8 : (Jvm.Cond.selects "PortraitRule$Realm" ({ cls := "PortraitRule$Realm", name := "takeIfItCanBe", desc := "(II)I" } : Jvm.MethodName) ({ cls := "PortraitRule$Realm", name := "takeIfItCanBe", desc := "(II)I" } : Jvm.MethodName)) ∈ px_TB := px_TBi (List.mem_append_left _ (List.mem_of_getElem? (i := 8) (by decide +kernel))) rfl
theorem w_44 : (Jvm.Cond.fieldLinkNest "PortraitRule" (203 : Nat) "PortraitRule$Realm" "actsMade" "I" "PortraitRule") ∈ px_NW := px_NWi (List.mem_append_right _ (List.mem_of_getElem? (i := 44) (by decide +kernel))) rfl
theorem w_99 : (Jvm.Cond.fieldLink "PortraitRule" (206 : Nat) "PortraitRule" "firstKept" "Z") ∈ px_TB := px_TBi (List.mem_append_right _ (List.mem_of_getElem? (i := 99) (by decide +kernel))) rfl
theorem w_100 : (Jvm.Cond.fieldLink "PortraitRule" (210 : Nat) "PortraitRule" "secondKept" "Z") ∈ px_TB := px_TBi (List.mem_append_right _ (List.mem_of_getElem? (i := 100) (by decide +kernel))) rfl
theorem w_496 : (Jvm.Cond.methodLinkNest "PortraitRule" (213 : Nat) ({ cls := "PortraitRule$Realm", name := "tellPart", desc := "(II)I" } : Jvm.MethodName) "PortraitRule") ∈ px_NW := px_NWi (List.mem_append_right _ (List.mem_of_getElem? (i := 496) (by decide +kernel))) rfl
theorem w_498 : (Jvm.Cond.instanceMethod ({ cls := "PortraitRule$Realm", name := "tellPart", desc := "(II)I" } : Jvm.MethodName)) ∈ px_TB := px_TBi (List.mem_append_right _ (List.mem_of_getElem? (i := 498) (by decide +kernel))) rfl
theorem ws_46 : (Jvm.Cond.selects "PortraitRule$Realm" ({ cls := "PortraitRule$Realm", name := "tellPart", desc := "(II)I" } : Jvm.MethodName) ({ cls := "PortraitRule$Realm", name := "tellPart", desc := "(II)I" } : Jvm.MethodName)) ∈ px_TB := px_TBi (List.mem_append_left _ (List.mem_of_getElem? (i := 46) (by decide +kernel))) rfl
theorem w_195 : (Jvm.Cond.methodLinkNest "PortraitRule" (216 : Nat) ({ cls := "PortraitRule$Pad", name := "signAt", desc := "(I)I" } : Jvm.MethodName) "PortraitRule") ∈ px_NW := px_NWi (List.mem_append_right _ (List.mem_of_getElem? (i := 195) (by decide +kernel))) rfl
theorem w_196 : (Jvm.Cond.methodLinkNest "PortraitRule" (219 : Nat) ({ cls := "PortraitRule$Pad", name := "kindOf", desc := "(I)I" } : Jvm.MethodName) "PortraitRule") ∈ px_NW := px_NWi (List.mem_append_right _ (List.mem_of_getElem? (i := 196) (by decide +kernel))) rfl
theorem w_197 : (Jvm.Cond.methodLinkNest "PortraitRule" (222 : Nat) ({ cls := "PortraitRule$Pad", name := "numberOf", desc := "(I)I" } : Jvm.MethodName) "PortraitRule") ∈ px_NW := px_NWi (List.mem_append_right _ (List.mem_of_getElem? (i := 197) (by decide +kernel))) rfl
theorem w_198 : (Jvm.Cond.static ({ cls := "PortraitRule$Pad", name := "numberOf", desc := "(I)I" } : Jvm.MethodName)) ∈ px_TB := px_TBi (List.mem_append_right _ (List.mem_of_getElem? (i := 198) (by decide +kernel))) rfl
theorem w_278 : (Jvm.Cond.methodLinkNest "PortraitRule" (225 : Nat) ({ cls := "PortraitRule$Realm", name := "isPicture", desc := "(I)Z" } : Jvm.MethodName) "PortraitRule") ∈ px_NW := px_NWi (List.mem_append_right _ (List.mem_of_getElem? (i := 278) (by decide +kernel))) rfl
theorem w_280 : (Jvm.Cond.instanceMethod ({ cls := "PortraitRule$Realm", name := "isPicture", desc := "(I)Z" } : Jvm.MethodName)) ∈ px_TB := px_TBi (List.mem_append_right _ (List.mem_of_getElem? (i := 280) (by decide +kernel))) rfl
theorem ws_20 : (Jvm.Cond.selects "PortraitRule$Realm" ({ cls := "PortraitRule$Realm", name := "isPicture", desc := "(I)Z" } : Jvm.MethodName) ({ cls := "PortraitRule$Realm", name := "isPicture", desc := "(I)Z" } : Jvm.MethodName)) ∈ px_TB := px_TBi (List.mem_append_left _ (List.mem_of_getElem? (i := 20) (by decide +kernel))) rfl
theorem w_282 : (Jvm.Cond.methodLink "PortraitRule" (228 : Nat) ({ cls := "PortraitRule", name := "fitsPlan", desc := "(III)Z" } : Jvm.MethodName)) ∈ px_TB := px_TBi (List.mem_append_right _ (List.mem_of_getElem? (i := 282) (by decide +kernel))) rfl
theorem w_284 : (Jvm.Cond.instanceMethod ({ cls := "PortraitRule", name := "fitsPlan", desc := "(III)Z" } : Jvm.MethodName)) ∈ px_TB := px_TBi (List.mem_append_right _ (List.mem_of_getElem? (i := 284) (by decide +kernel))) rfl
theorem ws_21 : (Jvm.Cond.selects "PortraitRule" ({ cls := "PortraitRule", name := "fitsPlan", desc := "(III)Z" } : Jvm.MethodName) ({ cls := "PortraitRule", name := "fitsPlan", desc := "(III)Z" } : Jvm.MethodName)) ∈ px_TB := px_TBi (List.mem_append_left _ (List.mem_of_getElem? (i := 21) (by decide +kernel))) rfl
theorem w_288 : (Jvm.Cond.methodLinkNest "PortraitRule" (232 : Nat) ({ cls := "PortraitRule$Realm", name := "hoursToPaint", desc := "(I)I" } : Jvm.MethodName) "PortraitRule") ∈ px_NW := px_NWi (List.mem_append_right _ (List.mem_of_getElem? (i := 288) (by decide +kernel))) rfl
theorem w_290 : (Jvm.Cond.instanceMethod ({ cls := "PortraitRule$Realm", name := "hoursToPaint", desc := "(I)I" } : Jvm.MethodName)) ∈ px_TB := px_TBi (List.mem_append_right _ (List.mem_of_getElem? (i := 290) (by decide +kernel))) rfl
theorem ws_22 : (Jvm.Cond.selects "PortraitRule$Realm" ({ cls := "PortraitRule$Realm", name := "hoursToPaint", desc := "(I)I" } : Jvm.MethodName) ({ cls := "PortraitRule$Realm", name := "hoursToPaint", desc := "(I)I" } : Jvm.MethodName)) ∈ px_TB := px_TBi (List.mem_append_left _ (List.mem_of_getElem? (i := 22) (by decide +kernel))) rfl
theorem w_324 : (Jvm.Cond.methodLink "PortraitRule" (235 : Nat) ({ cls := "PortraitRule", name := "isFewer", desc := "(II)Z" } : Jvm.MethodName)) ∈ px_TB := px_TBi (List.mem_append_right _ (List.mem_of_getElem? (i := 324) (by decide +kernel))) rfl
theorem w_325 : (Jvm.Cond.static ({ cls := "PortraitRule", name := "isFewer", desc := "(II)Z" } : Jvm.MethodName)) ∈ px_TB := px_TBi (List.mem_append_right _ (List.mem_of_getElem? (i := 325) (by decide +kernel))) rfl
theorem w_328 : (Jvm.Cond.methodLinkNest "PortraitRule" (238 : Nat) ({ cls := "PortraitRule$Realm", name := "fallingWith", desc := "(I)I" } : Jvm.MethodName) "PortraitRule") ∈ px_NW := px_NWi (List.mem_append_right _ (List.mem_of_getElem? (i := 328) (by decide +kernel))) rfl
theorem w_327 : (Jvm.Cond.methodLink "PortraitRule" (241 : Nat) ({ cls := "java/lang/Integer", name := "bitCount", desc := "(I)I" } : Jvm.MethodName)) ∈ px_TB := px_TBi (List.mem_append_right _ (List.mem_of_getElem? (i := 327) (by decide +kernel))) rfl
theorem w_376 : (Jvm.Cond.methodLinkNest "PortraitRule" (246 : Nat) ({ cls := "PortraitRule$Realm", name := "nextSightStep", desc := "(I)I" } : Jvm.MethodName) "PortraitRule") ∈ px_NW := px_NWi (List.mem_append_right _ (List.mem_of_getElem? (i := 376) (by decide +kernel))) rfl
theorem w_378 : (Jvm.Cond.instanceMethod ({ cls := "PortraitRule$Realm", name := "nextSightStep", desc := "(I)I" } : Jvm.MethodName)) ∈ px_TB := px_TBi (List.mem_append_right _ (List.mem_of_getElem? (i := 378) (by decide +kernel))) rfl
theorem ws_33 : (Jvm.Cond.selects "PortraitRule$Realm" ({ cls := "PortraitRule$Realm", name := "nextSightStep", desc := "(I)I" } : Jvm.MethodName) ({ cls := "PortraitRule$Realm", name := "nextSightStep", desc := "(I)I" } : Jvm.MethodName)) ∈ px_TB := px_TBi (List.mem_append_left _ (List.mem_of_getElem? (i := 33) (by decide +kernel))) rfl
theorem w_380 : (Jvm.Cond.methodLink "PortraitRule" (249 : Nat) ({ cls := "PortraitRule", name := "markAllWithMore", desc := "()V" } : Jvm.MethodName)) ∈ px_TB := px_TBi (List.mem_append_right _ (List.mem_of_getElem? (i := 380) (by decide +kernel))) rfl
theorem w_382 : (Jvm.Cond.instanceMethod ({ cls := "PortraitRule", name := "markAllWithMore", desc := "()V" } : Jvm.MethodName)) ∈ px_TB := px_TBi (List.mem_append_right _ (List.mem_of_getElem? (i := 382) (by decide +kernel))) rfl
theorem ws_34 : (Jvm.Cond.selects "PortraitRule" ({ cls := "PortraitRule", name := "markAllWithMore", desc := "()V" } : Jvm.MethodName) ({ cls := "PortraitRule", name := "markAllWithMore", desc := "()V" } : Jvm.MethodName)) ∈ px_TB := px_TBi (List.mem_append_left _ (List.mem_of_getElem? (i := 34) (by decide +kernel))) rfl
theorem w_384 : (Jvm.Cond.methodLink "PortraitRule" (252 : Nat) ({ cls := "PortraitRule", name := "keepThoseSeenAt", desc := "(I)V" } : Jvm.MethodName)) ∈ px_TB := px_TBi (List.mem_append_right _ (List.mem_of_getElem? (i := 384) (by decide +kernel))) rfl
theorem w_386 : (Jvm.Cond.instanceMethod ({ cls := "PortraitRule", name := "keepThoseSeenAt", desc := "(I)V" } : Jvm.MethodName)) ∈ px_TB := px_TBi (List.mem_append_right _ (List.mem_of_getElem? (i := 386) (by decide +kernel))) rfl
theorem ws_35 : (Jvm.Cond.selects "PortraitRule" ({ cls := "PortraitRule", name := "keepThoseSeenAt", desc := "(I)V" } : Jvm.MethodName) ({ cls := "PortraitRule", name := "keepThoseSeenAt", desc := "(I)V" } : Jvm.MethodName)) ∈ px_TB := px_TBi (List.mem_append_left _ (List.mem_of_getElem? (i := 35) (by decide +kernel))) rfl
theorem w_388 : (Jvm.Cond.methodLinkNest "PortraitRule" (255 : Nat) ({ cls := "PortraitRule$Realm", name := "fitsSightsAt", desc := "(II)Z" } : Jvm.MethodName) "PortraitRule") ∈ px_NW := px_NWi (List.mem_append_right _ (List.mem_of_getElem? (i := 388) (by decide +kernel))) rfl
theorem w_390 : (Jvm.Cond.instanceMethod ({ cls := "PortraitRule$Realm", name := "fitsSightsAt", desc := "(II)Z" } : Jvm.MethodName)) ∈ px_TB := px_TBi (List.mem_append_right _ (List.mem_of_getElem? (i := 390) (by decide +kernel))) rfl
theorem ws_36 : (Jvm.Cond.selects "PortraitRule$Realm" ({ cls := "PortraitRule$Realm", name := "fitsSightsAt", desc := "(II)Z" } : Jvm.MethodName) ({ cls := "PortraitRule$Realm", name := "fitsSightsAt", desc := "(II)Z" } : Jvm.MethodName)) ∈ px_TB := px_TBi (List.mem_append_left _ (List.mem_of_getElem? (i := 36) (by decide +kernel))) rfl
theorem w_412 : (Jvm.Cond.methodLink "PortraitRule" (258 : Nat) ({ cls := "java/lang/Math", name := "max", desc := "(II)I" } : Jvm.MethodName)) ∈ px_TB := px_TBi (List.mem_append_right _ (List.mem_of_getElem? (i := 412) (by decide +kernel))) rfl
theorem w_413 : (Jvm.Cond.static ({ cls := "java/lang/Math", name := "max", desc := "(II)I" } : Jvm.MethodName)) ∈ px_TB := px_TBi (List.mem_append_right _ (List.mem_of_getElem? (i := 413) (by decide +kernel))) rfl
theorem w_7 : (Jvm.Cond.initialized "java/lang/Math") ∈ px_TB := px_TBi (List.mem_append_right _ (List.mem_of_getElem? (i := 7) (by decide +kernel))) rfl
set_option maxRecDepth 20000 in
theorem w_414 : (Jvm.Cond.code ({ cls := "java/lang/Math", name := "max", desc := "(II)I" } : Jvm.MethodName) prog_7_method_65_code (2 : Nat) (Option.some Jvm.ClassFile.FieldType.int)) ∈ px_TB := px_TBi (List.mem_append_right _ (List.mem_of_getElem? (i := 414) rfl)) rfl
theorem w_442 : (Jvm.Cond.methodLink "PortraitRule" (263 : Nat) ({ cls := "PortraitRule", name := "winningPart", desc := "(II)I" } : Jvm.MethodName)) ∈ px_TB := px_TBi (List.mem_append_right _ (List.mem_of_getElem? (i := 442) (by decide +kernel))) rfl
theorem w_444 : (Jvm.Cond.instanceMethod ({ cls := "PortraitRule", name := "winningPart", desc := "(II)I" } : Jvm.MethodName)) ∈ px_TB := px_TBi (List.mem_append_right _ (List.mem_of_getElem? (i := 444) (by decide +kernel))) rfl
theorem ws_42 : (Jvm.Cond.selects "PortraitRule" ({ cls := "PortraitRule", name := "winningPart", desc := "(II)I" } : Jvm.MethodName) ({ cls := "PortraitRule", name := "winningPart", desc := "(II)I" } : Jvm.MethodName)) ∈ px_TB := px_TBi (List.mem_append_left _ (List.mem_of_getElem? (i := 42) (by decide +kernel))) rfl
theorem w_456 : (Jvm.Cond.methodLink "PortraitRule" (266 : Nat) ({ cls := "PortraitRule", name := "feverWeight", desc := "(III)J" } : Jvm.MethodName)) ∈ px_TB := px_TBi (List.mem_append_right _ (List.mem_of_getElem? (i := 456) (by decide +kernel))) rfl
theorem w_457 : (Jvm.Cond.static ({ cls := "PortraitRule", name := "feverWeight", desc := "(III)J" } : Jvm.MethodName)) ∈ px_TB := px_TBi (List.mem_append_right _ (List.mem_of_getElem? (i := 457) (by decide +kernel))) rfl
theorem w_465 : (Jvm.Cond.methodLinkNest "PortraitRule" (269 : Nat) ({ cls := "PortraitRule$Realm", name := "paintLeast", desc := "()V" } : Jvm.MethodName) "PortraitRule") ∈ px_NW := px_NWi (List.mem_append_right _ (List.mem_of_getElem? (i := 465) (by decide +kernel))) rfl
theorem w_467 : (Jvm.Cond.instanceMethod ({ cls := "PortraitRule$Realm", name := "paintLeast", desc := "()V" } : Jvm.MethodName)) ∈ px_TB := px_TBi (List.mem_append_right _ (List.mem_of_getElem? (i := 467) (by decide +kernel))) rfl
theorem ws_44 : (Jvm.Cond.selects "PortraitRule$Realm" ({ cls := "PortraitRule$Realm", name := "paintLeast", desc := "()V" } : Jvm.MethodName) ({ cls := "PortraitRule$Realm", name := "paintLeast", desc := "()V" } : Jvm.MethodName)) ∈ px_TB := px_TBi (List.mem_append_left _ (List.mem_of_getElem? (i := 44) (by decide +kernel))) rfl
theorem w_459 : (Jvm.Cond.methodLink "PortraitRule" (272 : Nat) ({ cls := "PortraitRule", name := "choices", desc := "(II)J" } : Jvm.MethodName)) ∈ px_TB := px_TBi (List.mem_append_right _ (List.mem_of_getElem? (i := 459) (by decide +kernel))) rfl
theorem w_460 : (Jvm.Cond.static ({ cls := "PortraitRule", name := "choices", desc := "(II)J" } : Jvm.MethodName)) ∈ px_TB := px_TBi (List.mem_append_right _ (List.mem_of_getElem? (i := 460) (by decide +kernel))) rfl
theorem w_505 : (Jvm.Cond.methodLink "PortraitRuleModel" (1 : Nat) ({ cls := "java/lang/Object", name := "<init>", desc := "()V" } : Jvm.MethodName)) ∈ px_TB := px_TBi (List.mem_append_right _ (List.mem_of_getElem? (i := 505) (by decide +kernel))) rfl
theorem w_506 : (Jvm.Cond.fieldLink "PortraitRuleModel" (7 : Nat) "PortraitRuleModel" "hours" "[I") ∈ px_TB := px_TBi (List.mem_append_right _ (List.mem_of_getElem? (i := 506) (by decide +kernel))) rfl
theorem w_507 : (Jvm.Cond.fieldLink "PortraitRuleModel" (13 : Nat) "PortraitRuleModel" "under" "[I") ∈ px_TB := px_TBi (List.mem_append_right _ (List.mem_of_getElem? (i := 507) (by decide +kernel))) rfl
theorem w_508 : (Jvm.Cond.fieldLink "PortraitRuleModel" (16 : Nat) "PortraitRuleModel" "gives" "[I") ∈ px_TB := px_TBi (List.mem_append_right _ (List.mem_of_getElem? (i := 508) (by decide +kernel))) rfl
theorem w_509 : (Jvm.Cond.fieldLink "PortraitRuleModel" (19 : Nat) "PortraitRuleModel" "painted" "[I") ∈ px_TB := px_TBi (List.mem_append_right _ (List.mem_of_getElem? (i := 509) (by decide +kernel))) rfl
theorem w_510 : (Jvm.Cond.fieldLink "PortraitRuleModel" (22 : Nat) "PortraitRuleModel" "need" "[I") ∈ px_TB := px_TBi (List.mem_append_right _ (List.mem_of_getElem? (i := 510) (by decide +kernel))) rfl
theorem w_513 : (Jvm.Cond.fieldLink "PortraitRuleModel" (25 : Nat) "PortraitRuleModel" "colony" "[I") ∈ px_TB := px_TBi (List.mem_append_right _ (List.mem_of_getElem? (i := 513) (by decide +kernel))) rfl
theorem w_515 : (Jvm.Cond.fieldLink "PortraitRuleModel" (28 : Nat) "PortraitRuleModel" "sight" "[I") ∈ px_TB := px_TBi (List.mem_append_right _ (List.mem_of_getElem? (i := 515) (by decide +kernel))) rfl
theorem w_517 : (Jvm.Cond.fieldLink "PortraitRuleModel" (31 : Nat) "PortraitRuleModel" "pad" "[I") ∈ px_TB := px_TBi (List.mem_append_right _ (List.mem_of_getElem? (i := 517) (by decide +kernel))) rfl
theorem w_518 : (Jvm.Cond.fieldLink "PortraitRuleModel" (34 : Nat) "PortraitRuleModel" "now" "[I") ∈ px_TB := px_TBi (List.mem_append_right _ (List.mem_of_getElem? (i := 518) (by decide +kernel))) rfl
theorem w_526 : (Jvm.Cond.fieldLink "PortraitRuleModel" (37 : Nat) "PortraitRuleModel" "ways" "[I") ∈ px_TB := px_TBi (List.mem_append_right _ (List.mem_of_getElem? (i := 526) (by decide +kernel))) rfl
theorem w_527 : (Jvm.Cond.fieldLink "PortraitRuleModel" (40 : Nat) "PortraitRuleModel" "can" "[Z") ∈ px_TB := px_TBi (List.mem_append_right _ (List.mem_of_getElem? (i := 527) (by decide +kernel))) rfl
theorem w_528 : (Jvm.Cond.fieldLink "PortraitRuleModel" (44 : Nat) "PortraitRuleModel" "then" "[Z") ∈ px_TB := px_TBi (List.mem_append_right _ (List.mem_of_getElem? (i := 528) (by decide +kernel))) rfl
theorem w_529 : (Jvm.Cond.fieldLink "PortraitRuleModel" (47 : Nat) "PortraitRuleModel" "wins" "[Z") ∈ px_TB := px_TBi (List.mem_append_right _ (List.mem_of_getElem? (i := 529) (by decide +kernel))) rfl
theorem w_530 : (Jvm.Cond.fieldLink "PortraitRuleModel" (50 : Nat) "PortraitRuleModel" "image" "[I") ∈ px_TB := px_TBi (List.mem_append_right _ (List.mem_of_getElem? (i := 530) (by decide +kernel))) rfl
theorem w_531 : (Jvm.Cond.fieldLink "PortraitRuleModel" (53 : Nat) "PortraitRuleModel" "isKept" "[Z") ∈ px_TB := px_TBi (List.mem_append_right _ (List.mem_of_getElem? (i := 531) (by decide +kernel))) rfl
theorem w_593 : (Jvm.Cond.methodLink "PortraitRuleModel" (56 : Nat) ({ cls := "PortraitRuleModel", name := "in", desc := "(III)Z" } : Jvm.MethodName)) ∈ px_TB := px_TBi (List.mem_append_right _ (List.mem_of_getElem? (i := 593) (by decide +kernel))) rfl
theorem w_594 : (Jvm.Cond.static ({ cls := "PortraitRuleModel", name := "in", desc := "(III)Z" } : Jvm.MethodName)) ∈ px_TB := px_TBi (List.mem_append_right _ (List.mem_of_getElem? (i := 594) (by decide +kernel))) rfl
theorem w_590 : (Jvm.Cond.methodLink "PortraitRuleModel" (60 : Nat) ({ cls := "PortraitRuleModel", name := "isOne", desc := "(I)Z" } : Jvm.MethodName)) ∈ px_TB := px_TBi (List.mem_append_right _ (List.mem_of_getElem? (i := 590) (by decide +kernel))) rfl
theorem w_591 : (Jvm.Cond.static ({ cls := "PortraitRuleModel", name := "isOne", desc := "(I)Z" } : Jvm.MethodName)) ∈ px_TB := px_TBi (List.mem_append_right _ (List.mem_of_getElem? (i := 591) (by decide +kernel))) rfl
theorem w_596 : (Jvm.Cond.methodLink "PortraitRuleModel" (64 : Nat) ({ cls := "PortraitRuleModel", name := "above", desc := "(I)I" } : Jvm.MethodName)) ∈ px_TB := px_TBi (List.mem_append_right _ (List.mem_of_getElem? (i := 596) (by decide +kernel))) rfl
theorem w_598 : (Jvm.Cond.instanceMethod ({ cls := "PortraitRuleModel", name := "above", desc := "(I)I" } : Jvm.MethodName)) ∈ px_TB := px_TBi (List.mem_append_right _ (List.mem_of_getElem? (i := 598) (by decide +kernel))) rfl
theorem ws_47 : (Jvm.Cond.selects "PortraitRuleModel" ({ cls := "PortraitRuleModel", name := "above", desc := "(I)I" } : Jvm.MethodName) ({ cls := "PortraitRuleModel", name := "above", desc := "(I)I" } : Jvm.MethodName)) ∈ px_TB := px_TBi (List.mem_append_left _ (List.mem_of_getElem? (i := 47) (by decide +kernel))) rfl
theorem w_600 : (Jvm.Cond.methodLink "PortraitRuleModel" (68 : Nat) ({ cls := "PortraitRuleModel", name := "has", desc := "(II)Z" } : Jvm.MethodName)) ∈ px_TB := px_TBi (List.mem_append_right _ (List.mem_of_getElem? (i := 600) (by decide +kernel))) rfl
theorem w_601 : (Jvm.Cond.static ({ cls := "PortraitRuleModel", name := "has", desc := "(II)Z" } : Jvm.MethodName)) ∈ px_TB := px_TBi (List.mem_append_right _ (List.mem_of_getElem? (i := 601) (by decide +kernel))) rfl
theorem w_511 : (Jvm.Cond.fieldLink "PortraitRuleModel" (72 : Nat) "PortraitRuleModel" "force" "I") ∈ px_TB := px_TBi (List.mem_append_right _ (List.mem_of_getElem? (i := 511) (by decide +kernel))) rfl
theorem w_516 : (Jvm.Cond.fieldLink "PortraitRuleModel" (76 : Nat) "PortraitRuleModel" "signs" "I") ∈ px_TB := px_TBi (List.mem_append_right _ (List.mem_of_getElem? (i := 516) (by decide +kernel))) rfl
theorem w_623 : (Jvm.Cond.methodLink "PortraitRuleModel" (79 : Nat) ({ cls := "PortraitRuleModel", name := "isPart", desc := "(I)Z" } : Jvm.MethodName)) ∈ px_TB := px_TBi (List.mem_append_right _ (List.mem_of_getElem? (i := 623) (by decide +kernel))) rfl
theorem w_624 : (Jvm.Cond.static ({ cls := "PortraitRuleModel", name := "isPart", desc := "(I)Z" } : Jvm.MethodName)) ∈ px_TB := px_TBi (List.mem_append_right _ (List.mem_of_getElem? (i := 624) (by decide +kernel))) rfl
theorem w_619 : (Jvm.Cond.methodLink "PortraitRuleModel" (82 : Nat) ({ cls := "PortraitRuleModel", name := "faultOf", desc := "()I" } : Jvm.MethodName)) ∈ px_TB := px_TBi (List.mem_append_right _ (List.mem_of_getElem? (i := 619) (by decide +kernel))) rfl
theorem w_621 : (Jvm.Cond.instanceMethod ({ cls := "PortraitRuleModel", name := "faultOf", desc := "()I" } : Jvm.MethodName)) ∈ px_TB := px_TBi (List.mem_append_right _ (List.mem_of_getElem? (i := 621) (by decide +kernel))) rfl
theorem ws_48 : (Jvm.Cond.selects "PortraitRuleModel" ({ cls := "PortraitRuleModel", name := "faultOf", desc := "()I" } : Jvm.MethodName) ({ cls := "PortraitRuleModel", name := "faultOf", desc := "()I" } : Jvm.MethodName)) ∈ px_TB := px_TBi (List.mem_append_left _ (List.mem_of_getElem? (i := 48) (by decide +kernel))) rfl
theorem w_519 : (Jvm.Cond.fieldLink "PortraitRuleModel" (86 : Nat) "PortraitRuleModel" "forceNow" "I") ∈ px_TB := px_TBi (List.mem_append_right _ (List.mem_of_getElem? (i := 519) (by decide +kernel))) rfl
theorem w_512 : (Jvm.Cond.fieldLink "PortraitRuleModel" (89 : Nat) "PortraitRuleModel" "sits" "I") ∈ px_TB := px_TBi (List.mem_append_right _ (List.mem_of_getElem? (i := 512) (by decide +kernel))) rfl
theorem w_520 : (Jvm.Cond.fieldLink "PortraitRuleModel" (92 : Nat) "PortraitRuleModel" "sitsNow" "I") ∈ px_TB := px_TBi (List.mem_append_right _ (List.mem_of_getElem? (i := 520) (by decide +kernel))) rfl
theorem w_521 : (Jvm.Cond.fieldLink "PortraitRuleModel" (95 : Nat) "PortraitRuleModel" "hoursNow" "I") ∈ px_TB := px_TBi (List.mem_append_right _ (List.mem_of_getElem? (i := 521) (by decide +kernel))) rfl
theorem w_522 : (Jvm.Cond.fieldLink "PortraitRuleModel" (98 : Nat) "PortraitRuleModel" "repealed" "I") ∈ px_TB := px_TBi (List.mem_append_right _ (List.mem_of_getElem? (i := 522) (by decide +kernel))) rfl
theorem w_523 : (Jvm.Cond.fieldLink "PortraitRuleModel" (101 : Nat) "PortraitRuleModel" "made" "I") ∈ px_TB := px_TBi (List.mem_append_right _ (List.mem_of_getElem? (i := 523) (by decide +kernel))) rfl
theorem w_650 : (Jvm.Cond.methodLink "PortraitRuleModel" (104 : Nat) ({ cls := "PortraitRuleModel", name := "powers", desc := "(I)I" } : Jvm.MethodName)) ∈ px_TB := px_TBi (List.mem_append_right _ (List.mem_of_getElem? (i := 650) (by decide +kernel))) rfl
theorem w_652 : (Jvm.Cond.instanceMethod ({ cls := "PortraitRuleModel", name := "powers", desc := "(I)I" } : Jvm.MethodName)) ∈ px_TB := px_TBi (List.mem_append_right _ (List.mem_of_getElem? (i := 652) (by decide +kernel))) rfl
theorem ws_54 : (Jvm.Cond.selects "PortraitRuleModel" ({ cls := "PortraitRuleModel", name := "powers", desc := "(I)I" } : Jvm.MethodName) ({ cls := "PortraitRuleModel", name := "powers", desc := "(I)I" } : Jvm.MethodName)) ∈ px_TB := px_TBi (List.mem_append_left _ (List.mem_of_getElem? (i := 54) (by decide +kernel))) rfl
theorem w_646 : (Jvm.Cond.methodLink "PortraitRuleModel" (107 : Nat) ({ cls := "PortraitRuleModel", name := "doneNow", desc := "()I" } : Jvm.MethodName)) ∈ px_TB := px_TBi (List.mem_append_right _ (List.mem_of_getElem? (i := 646) (by decide +kernel))) rfl
theorem w_648 : (Jvm.Cond.instanceMethod ({ cls := "PortraitRuleModel", name := "doneNow", desc := "()I" } : Jvm.MethodName)) ∈ px_TB := px_TBi (List.mem_append_right _ (List.mem_of_getElem? (i := 648) (by decide +kernel))) rfl
theorem ws_53 : (Jvm.Cond.selects "PortraitRuleModel" ({ cls := "PortraitRuleModel", name := "doneNow", desc := "()I" } : Jvm.MethodName) ({ cls := "PortraitRuleModel", name := "doneNow", desc := "()I" } : Jvm.MethodName)) ∈ px_TB := px_TBi (List.mem_append_left _ (List.mem_of_getElem? (i := 53) (by decide +kernel))) rfl
theorem w_642 : (Jvm.Cond.methodLink "PortraitRuleModel" (110 : Nat) ({ cls := "PortraitRuleModel", name := "powersNow", desc := "()I" } : Jvm.MethodName)) ∈ px_TB := px_TBi (List.mem_append_right _ (List.mem_of_getElem? (i := 642) (by decide +kernel))) rfl
theorem w_644 : (Jvm.Cond.instanceMethod ({ cls := "PortraitRuleModel", name := "powersNow", desc := "()I" } : Jvm.MethodName)) ∈ px_TB := px_TBi (List.mem_append_right _ (List.mem_of_getElem? (i := 644) (by decide +kernel))) rfl
theorem ws_52 : (Jvm.Cond.selects "PortraitRuleModel" ({ cls := "PortraitRuleModel", name := "powersNow", desc := "()I" } : Jvm.MethodName) ({ cls := "PortraitRuleModel", name := "powersNow", desc := "()I" } : Jvm.MethodName)) ∈ px_TB := px_TBi (List.mem_append_left _ (List.mem_of_getElem? (i := 52) (by decide +kernel))) rfl
theorem w_634 : (Jvm.Cond.methodLink "PortraitRuleModel" (113 : Nat) ({ cls := "PortraitRuleModel", name := "asNow", desc := "()V" } : Jvm.MethodName)) ∈ px_TB := px_TBi (List.mem_append_right _ (List.mem_of_getElem? (i := 634) (by decide +kernel))) rfl
theorem w_636 : (Jvm.Cond.instanceMethod ({ cls := "PortraitRuleModel", name := "asNow", desc := "()V" } : Jvm.MethodName)) ∈ px_TB := px_TBi (List.mem_append_right _ (List.mem_of_getElem? (i := 636) (by decide +kernel))) rfl
theorem ws_50 : (Jvm.Cond.selects "PortraitRuleModel" ({ cls := "PortraitRuleModel", name := "asNow", desc := "()V" } : Jvm.MethodName) ({ cls := "PortraitRuleModel", name := "asNow", desc := "()V" } : Jvm.MethodName)) ∈ px_TB := px_TBi (List.mem_append_left _ (List.mem_of_getElem? (i := 50) (by decide +kernel))) rfl
theorem w_525 : (Jvm.Cond.fieldLink "PortraitRuleModel" (116 : Nat) "PortraitRuleModel" "steps" "I") ∈ px_TB := px_TBi (List.mem_append_right _ (List.mem_of_getElem? (i := 525) (by decide +kernel))) rfl
theorem w_524 : (Jvm.Cond.fieldLink "PortraitRuleModel" (119 : Nat) "PortraitRuleModel" "reason" "I") ∈ px_TB := px_TBi (List.mem_append_right _ (List.mem_of_getElem? (i := 524) (by decide +kernel))) rfl
theorem w_638 : (Jvm.Cond.methodLink "PortraitRuleModel" (122 : Nat) ({ cls := "PortraitRuleModel", name := "over", desc := "(I)V" } : Jvm.MethodName)) ∈ px_TB := px_TBi (List.mem_append_right _ (List.mem_of_getElem? (i := 638) (by decide +kernel))) rfl
theorem w_640 : (Jvm.Cond.instanceMethod ({ cls := "PortraitRuleModel", name := "over", desc := "(I)V" } : Jvm.MethodName)) ∈ px_TB := px_TBi (List.mem_append_right _ (List.mem_of_getElem? (i := 640) (by decide +kernel))) rfl
theorem ws_51 : (Jvm.Cond.selects "PortraitRuleModel" ({ cls := "PortraitRuleModel", name := "over", desc := "(I)V" } : Jvm.MethodName) ({ cls := "PortraitRuleModel", name := "over", desc := "(I)V" } : Jvm.MethodName)) ∈ px_TB := px_TBi (List.mem_append_left _ (List.mem_of_getElem? (i := 51) (by decide +kernel))) rfl
theorem w_654 : (Jvm.Cond.methodLink "PortraitRuleModel" (126 : Nat) ({ cls := "PortraitRuleModel", name := "whyNoHour", desc := "(I)I" } : Jvm.MethodName)) ∈ px_TB := px_TBi (List.mem_append_right _ (List.mem_of_getElem? (i := 654) (by decide +kernel))) rfl
theorem w_656 : (Jvm.Cond.instanceMethod ({ cls := "PortraitRuleModel", name := "whyNoHour", desc := "(I)I" } : Jvm.MethodName)) ∈ px_TB := px_TBi (List.mem_append_right _ (List.mem_of_getElem? (i := 656) (by decide +kernel))) rfl
theorem ws_55 : (Jvm.Cond.selects "PortraitRuleModel" ({ cls := "PortraitRuleModel", name := "whyNoHour", desc := "(I)I" } : Jvm.MethodName) ({ cls := "PortraitRuleModel", name := "whyNoHour", desc := "(I)I" } : Jvm.MethodName)) ∈ px_TB := px_TBi (List.mem_append_left _ (List.mem_of_getElem? (i := 55) (by decide +kernel))) rfl
theorem w_658 : (Jvm.Cond.methodLink "PortraitRuleModel" (129 : Nat) ({ cls := "PortraitRuleModel", name := "paint", desc := "(I)V" } : Jvm.MethodName)) ∈ px_TB := px_TBi (List.mem_append_right _ (List.mem_of_getElem? (i := 658) (by decide +kernel))) rfl
theorem w_660 : (Jvm.Cond.instanceMethod ({ cls := "PortraitRuleModel", name := "paint", desc := "(I)V" } : Jvm.MethodName)) ∈ px_TB := px_TBi (List.mem_append_right _ (List.mem_of_getElem? (i := 660) (by decide +kernel))) rfl
theorem ws_56 : (Jvm.Cond.selects "PortraitRuleModel" ({ cls := "PortraitRuleModel", name := "paint", desc := "(I)V" } : Jvm.MethodName) ({ cls := "PortraitRuleModel", name := "paint", desc := "(I)V" } : Jvm.MethodName)) ∈ px_TB := px_TBi (List.mem_append_left _ (List.mem_of_getElem? (i := 56) (by decide +kernel))) rfl
theorem w_662 : (Jvm.Cond.methodLink "PortraitRuleModel" (132 : Nat) ({ cls := "PortraitRuleModel", name := "whyNoAct", desc := "(I)I" } : Jvm.MethodName)) ∈ px_TB := px_TBi (List.mem_append_right _ (List.mem_of_getElem? (i := 662) (by decide +kernel))) rfl
theorem w_664 : (Jvm.Cond.instanceMethod ({ cls := "PortraitRuleModel", name := "whyNoAct", desc := "(I)I" } : Jvm.MethodName)) ∈ px_TB := px_TBi (List.mem_append_right _ (List.mem_of_getElem? (i := 664) (by decide +kernel))) rfl
theorem ws_57 : (Jvm.Cond.selects "PortraitRuleModel" ({ cls := "PortraitRuleModel", name := "whyNoAct", desc := "(I)I" } : Jvm.MethodName) ({ cls := "PortraitRuleModel", name := "whyNoAct", desc := "(I)I" } : Jvm.MethodName)) ∈ px_TB := px_TBi (List.mem_append_left _ (List.mem_of_getElem? (i := 57) (by decide +kernel))) rfl
theorem w_666 : (Jvm.Cond.methodLink "PortraitRuleModel" (135 : Nat) ({ cls := "PortraitRuleModel", name := "make", desc := "(I)V" } : Jvm.MethodName)) ∈ px_TB := px_TBi (List.mem_append_right _ (List.mem_of_getElem? (i := 666) (by decide +kernel))) rfl
theorem w_668 : (Jvm.Cond.instanceMethod ({ cls := "PortraitRuleModel", name := "make", desc := "(I)V" } : Jvm.MethodName)) ∈ px_TB := px_TBi (List.mem_append_right _ (List.mem_of_getElem? (i := 668) (by decide +kernel))) rfl
theorem ws_58 : (Jvm.Cond.selects "PortraitRuleModel" ({ cls := "PortraitRuleModel", name := "make", desc := "(I)V" } : Jvm.MethodName) ({ cls := "PortraitRuleModel", name := "make", desc := "(I)V" } : Jvm.MethodName)) ∈ px_TB := px_TBi (List.mem_append_left _ (List.mem_of_getElem? (i := 58) (by decide +kernel))) rfl
theorem w_630 : (Jvm.Cond.methodLink "PortraitRuleModel" (138 : Nat) ({ cls := "PortraitRuleModel", name := "goReign", desc := "()I" } : Jvm.MethodName)) ∈ px_TB := px_TBi (List.mem_append_right _ (List.mem_of_getElem? (i := 630) (by decide +kernel))) rfl
theorem w_632 : (Jvm.Cond.instanceMethod ({ cls := "PortraitRuleModel", name := "goReign", desc := "()I" } : Jvm.MethodName)) ∈ px_TB := px_TBi (List.mem_append_right _ (List.mem_of_getElem? (i := 632) (by decide +kernel))) rfl
theorem ws_49 : (Jvm.Cond.selects "PortraitRuleModel" ({ cls := "PortraitRuleModel", name := "goReign", desc := "()I" } : Jvm.MethodName) ({ cls := "PortraitRuleModel", name := "goReign", desc := "()I" } : Jvm.MethodName)) ∈ px_TB := px_TBi (List.mem_append_left _ (List.mem_of_getElem? (i := 49) (by decide +kernel))) rfl
theorem w_674 : (Jvm.Cond.methodLink "PortraitRuleModel" (141 : Nat) ({ cls := "PortraitRuleModel", name := "barOfReign", desc := "()I" } : Jvm.MethodName)) ∈ px_TB := px_TBi (List.mem_append_right _ (List.mem_of_getElem? (i := 674) (by decide +kernel))) rfl
theorem w_676 : (Jvm.Cond.instanceMethod ({ cls := "PortraitRuleModel", name := "barOfReign", desc := "()I" } : Jvm.MethodName)) ∈ px_TB := px_TBi (List.mem_append_right _ (List.mem_of_getElem? (i := 676) (by decide +kernel))) rfl
theorem ws_59 : (Jvm.Cond.selects "PortraitRuleModel" ({ cls := "PortraitRuleModel", name := "barOfReign", desc := "()I" } : Jvm.MethodName) ({ cls := "PortraitRuleModel", name := "barOfReign", desc := "()I" } : Jvm.MethodName)) ∈ px_TB := px_TBi (List.mem_append_left _ (List.mem_of_getElem? (i := 59) (by decide +kernel))) rfl
theorem w_682 : (Jvm.Cond.methodLink "PortraitRuleModel" (144 : Nat) ({ cls := "PortraitRuleModel", name := "stateNow", desc := "(I)I" } : Jvm.MethodName)) ∈ px_TB := px_TBi (List.mem_append_right _ (List.mem_of_getElem? (i := 682) (by decide +kernel))) rfl
theorem w_684 : (Jvm.Cond.instanceMethod ({ cls := "PortraitRuleModel", name := "stateNow", desc := "(I)I" } : Jvm.MethodName)) ∈ px_TB := px_TBi (List.mem_append_right _ (List.mem_of_getElem? (i := 684) (by decide +kernel))) rfl
theorem ws_60 : (Jvm.Cond.selects "PortraitRuleModel" ({ cls := "PortraitRuleModel", name := "stateNow", desc := "(I)I" } : Jvm.MethodName) ({ cls := "PortraitRuleModel", name := "stateNow", desc := "(I)I" } : Jvm.MethodName)) ∈ px_TB := px_TBi (List.mem_append_left _ (List.mem_of_getElem? (i := 60) (by decide +kernel))) rfl
theorem w_702 : (Jvm.Cond.methodLink "PortraitRuleModel" (147 : Nat) ({ cls := "PortraitRuleModel", name := "isClosed", desc := "(I)Z" } : Jvm.MethodName)) ∈ px_TB := px_TBi (List.mem_append_right _ (List.mem_of_getElem? (i := 702) (by decide +kernel))) rfl
theorem w_704 : (Jvm.Cond.instanceMethod ({ cls := "PortraitRuleModel", name := "isClosed", desc := "(I)Z" } : Jvm.MethodName)) ∈ px_TB := px_TBi (List.mem_append_right _ (List.mem_of_getElem? (i := 704) (by decide +kernel))) rfl
theorem ws_62 : (Jvm.Cond.selects "PortraitRuleModel" ({ cls := "PortraitRuleModel", name := "isClosed", desc := "(I)Z" } : Jvm.MethodName) ({ cls := "PortraitRuleModel", name := "isClosed", desc := "(I)Z" } : Jvm.MethodName)) ∈ px_TB := px_TBi (List.mem_append_left _ (List.mem_of_getElem? (i := 62) (by decide +kernel))) rfl
theorem w_706 : (Jvm.Cond.methodLink "PortraitRuleModel" (150 : Nat) ({ cls := "PortraitRuleModel", name := "costOf", desc := "(I)I" } : Jvm.MethodName)) ∈ px_TB := px_TBi (List.mem_append_right _ (List.mem_of_getElem? (i := 706) (by decide +kernel))) rfl
theorem w_708 : (Jvm.Cond.instanceMethod ({ cls := "PortraitRuleModel", name := "costOf", desc := "(I)I" } : Jvm.MethodName)) ∈ px_TB := px_TBi (List.mem_append_right _ (List.mem_of_getElem? (i := 708) (by decide +kernel))) rfl
theorem ws_63 : (Jvm.Cond.selects "PortraitRuleModel" ({ cls := "PortraitRuleModel", name := "costOf", desc := "(I)I" } : Jvm.MethodName) ({ cls := "PortraitRuleModel", name := "costOf", desc := "(I)I" } : Jvm.MethodName)) ∈ px_TB := px_TBi (List.mem_append_left _ (List.mem_of_getElem? (i := 63) (by decide +kernel))) rfl
theorem w_710 : (Jvm.Cond.methodLink "PortraitRuleModel" (153 : Nat) ({ cls := "PortraitRuleModel", name := "givesAll", desc := "(II)Z" } : Jvm.MethodName)) ∈ px_TB := px_TBi (List.mem_append_right _ (List.mem_of_getElem? (i := 710) (by decide +kernel))) rfl
theorem w_712 : (Jvm.Cond.instanceMethod ({ cls := "PortraitRuleModel", name := "givesAll", desc := "(II)Z" } : Jvm.MethodName)) ∈ px_TB := px_TBi (List.mem_append_right _ (List.mem_of_getElem? (i := 712) (by decide +kernel))) rfl
theorem ws_64 : (Jvm.Cond.selects "PortraitRuleModel" ({ cls := "PortraitRuleModel", name := "givesAll", desc := "(II)Z" } : Jvm.MethodName) ({ cls := "PortraitRuleModel", name := "givesAll", desc := "(II)Z" } : Jvm.MethodName)) ∈ px_TB := px_TBi (List.mem_append_left _ (List.mem_of_getElem? (i := 64) (by decide +kernel))) rfl
theorem w_698 : (Jvm.Cond.methodLink "PortraitRuleModel" (156 : Nat) ({ cls := "PortraitRuleModel", name := "cheapest", desc := "(II)I" } : Jvm.MethodName)) ∈ px_TB := px_TBi (List.mem_append_right _ (List.mem_of_getElem? (i := 698) (by decide +kernel))) rfl
theorem w_700 : (Jvm.Cond.instanceMethod ({ cls := "PortraitRuleModel", name := "cheapest", desc := "(II)I" } : Jvm.MethodName)) ∈ px_TB := px_TBi (List.mem_append_right _ (List.mem_of_getElem? (i := 700) (by decide +kernel))) rfl
theorem ws_61 : (Jvm.Cond.selects "PortraitRuleModel" ({ cls := "PortraitRuleModel", name := "cheapest", desc := "(II)I" } : Jvm.MethodName) ({ cls := "PortraitRuleModel", name := "cheapest", desc := "(II)I" } : Jvm.MethodName)) ∈ px_TB := px_TBi (List.mem_append_left _ (List.mem_of_getElem? (i := 61) (by decide +kernel))) rfl
theorem w_726 : (Jvm.Cond.methodLink "PortraitRuleModel" (160 : Nat) ({ cls := "PortraitRuleModel", name := "begun", desc := "()I" } : Jvm.MethodName)) ∈ px_TB := px_TBi (List.mem_append_right _ (List.mem_of_getElem? (i := 726) (by decide +kernel))) rfl
theorem w_728 : (Jvm.Cond.instanceMethod ({ cls := "PortraitRuleModel", name := "begun", desc := "()I" } : Jvm.MethodName)) ∈ px_TB := px_TBi (List.mem_append_right _ (List.mem_of_getElem? (i := 728) (by decide +kernel))) rfl
theorem ws_65 : (Jvm.Cond.selects "PortraitRuleModel" ({ cls := "PortraitRuleModel", name := "begun", desc := "()I" } : Jvm.MethodName) ({ cls := "PortraitRuleModel", name := "begun", desc := "()I" } : Jvm.MethodName)) ∈ px_TB := px_TBi (List.mem_append_left _ (List.mem_of_getElem? (i := 65) (by decide +kernel))) rfl
theorem w_730 : (Jvm.Cond.methodLink "PortraitRuleModel" (163 : Nat) ({ cls := "PortraitRuleModel", name := "bits", desc := "(I)I" } : Jvm.MethodName)) ∈ px_TB := px_TBi (List.mem_append_right _ (List.mem_of_getElem? (i := 730) (by decide +kernel))) rfl
theorem w_731 : (Jvm.Cond.static ({ cls := "PortraitRuleModel", name := "bits", desc := "(I)I" } : Jvm.MethodName)) ∈ px_TB := px_TBi (List.mem_append_right _ (List.mem_of_getElem? (i := 731) (by decide +kernel))) rfl
theorem w_741 : (Jvm.Cond.methodLink "PortraitRuleModel" (166 : Nat) ({ cls := "PortraitRuleModel", name := "aloneFor", desc := "(I)I" } : Jvm.MethodName)) ∈ px_TB := px_TBi (List.mem_append_right _ (List.mem_of_getElem? (i := 741) (by decide +kernel))) rfl
theorem w_743 : (Jvm.Cond.instanceMethod ({ cls := "PortraitRuleModel", name := "aloneFor", desc := "(I)I" } : Jvm.MethodName)) ∈ px_TB := px_TBi (List.mem_append_right _ (List.mem_of_getElem? (i := 743) (by decide +kernel))) rfl
theorem ws_66 : (Jvm.Cond.selects "PortraitRuleModel" ({ cls := "PortraitRuleModel", name := "aloneFor", desc := "(I)I" } : Jvm.MethodName) ({ cls := "PortraitRuleModel", name := "aloneFor", desc := "(I)I" } : Jvm.MethodName)) ∈ px_TB := px_TBi (List.mem_append_left _ (List.mem_of_getElem? (i := 66) (by decide +kernel))) rfl
theorem w_514 : (Jvm.Cond.fieldLink "PortraitRuleModel" (169 : Nat) "PortraitRuleModel" "sights" "I") ∈ px_TB := px_TBi (List.mem_append_right _ (List.mem_of_getElem? (i := 514) (by decide +kernel))) rfl
theorem w_765 : (Jvm.Cond.methodLink "PortraitRuleModel" (172 : Nat) ({ cls := "PortraitRuleModel", name := "layStep", desc := "(I)V" } : Jvm.MethodName)) ∈ px_TB := px_TBi (List.mem_append_right _ (List.mem_of_getElem? (i := 765) (by decide +kernel))) rfl
theorem w_767 : (Jvm.Cond.instanceMethod ({ cls := "PortraitRuleModel", name := "layStep", desc := "(I)V" } : Jvm.MethodName)) ∈ px_TB := px_TBi (List.mem_append_right _ (List.mem_of_getElem? (i := 767) (by decide +kernel))) rfl
theorem ws_68 : (Jvm.Cond.selects "PortraitRuleModel" ({ cls := "PortraitRuleModel", name := "layStep", desc := "(I)V" } : Jvm.MethodName) ({ cls := "PortraitRuleModel", name := "layStep", desc := "(I)V" } : Jvm.MethodName)) ∈ px_TB := px_TBi (List.mem_append_left _ (List.mem_of_getElem? (i := 68) (by decide +kernel))) rfl
theorem w_761 : (Jvm.Cond.methodLink "PortraitRuleModel" (175 : Nat) ({ cls := "PortraitRuleModel", name := "layHidden", desc := "()V" } : Jvm.MethodName)) ∈ px_TB := px_TBi (List.mem_append_right _ (List.mem_of_getElem? (i := 761) (by decide +kernel))) rfl
theorem w_763 : (Jvm.Cond.instanceMethod ({ cls := "PortraitRuleModel", name := "layHidden", desc := "()V" } : Jvm.MethodName)) ∈ px_TB := px_TBi (List.mem_append_right _ (List.mem_of_getElem? (i := 763) (by decide +kernel))) rfl
theorem ws_67 : (Jvm.Cond.selects "PortraitRuleModel" ({ cls := "PortraitRuleModel", name := "layHidden", desc := "()V" } : Jvm.MethodName) ({ cls := "PortraitRuleModel", name := "layHidden", desc := "()V" } : Jvm.MethodName)) ∈ px_TB := px_TBi (List.mem_append_left _ (List.mem_of_getElem? (i := 67) (by decide +kernel))) rfl
theorem w_773 : (Jvm.Cond.constant "PortraitRuleModel" (178 : Nat) (1000000 : Int32)) ∈ px_TB := px_TBi (List.mem_append_right _ (List.mem_of_getElem? (i := 773) (by decide +kernel))) rfl
theorem w_778 : (Jvm.Cond.methodLink "PortraitRuleModel" (179 : Nat) ({ cls := "PortraitRuleModel", name := "isColony", desc := "(I)Z" } : Jvm.MethodName)) ∈ px_TB := px_TBi (List.mem_append_right _ (List.mem_of_getElem? (i := 778) (by decide +kernel))) rfl
theorem w_779 : (Jvm.Cond.static ({ cls := "PortraitRuleModel", name := "isColony", desc := "(I)Z" } : Jvm.MethodName)) ∈ px_TB := px_TBi (List.mem_append_right _ (List.mem_of_getElem? (i := 779) (by decide +kernel))) rfl
theorem w_785 : (Jvm.Cond.methodLink "PortraitRuleModel" (182 : Nat) ({ cls := "PortraitRuleModel", name := "madeBy", desc := "(I)I" } : Jvm.MethodName)) ∈ px_TB := px_TBi (List.mem_append_right _ (List.mem_of_getElem? (i := 785) (by decide +kernel))) rfl
theorem w_787 : (Jvm.Cond.instanceMethod ({ cls := "PortraitRuleModel", name := "madeBy", desc := "(I)I" } : Jvm.MethodName)) ∈ px_TB := px_TBi (List.mem_append_right _ (List.mem_of_getElem? (i := 787) (by decide +kernel))) rfl
theorem ws_69 : (Jvm.Cond.selects "PortraitRuleModel" ({ cls := "PortraitRuleModel", name := "madeBy", desc := "(I)I" } : Jvm.MethodName) ({ cls := "PortraitRuleModel", name := "madeBy", desc := "(I)I" } : Jvm.MethodName)) ∈ px_TB := px_TBi (List.mem_append_left _ (List.mem_of_getElem? (i := 69) (by decide +kernel))) rfl
theorem w_805 : (Jvm.Cond.constantLong "PortraitRuleModel" (185 : Nat) (-1000000000000000001 : Int64)) ∈ px_TB := px_TBi (List.mem_append_right _ (List.mem_of_getElem? (i := 805) (by decide +kernel))) rfl
theorem w_806 : (Jvm.Cond.constantLong "PortraitRuleModel" (187 : Nat) (-1000000000000000002 : Int64)) ∈ px_TB := px_TBi (List.mem_append_right _ (List.mem_of_getElem? (i := 806) (by decide +kernel))) rfl
theorem w_807 : (Jvm.Cond.constantLong "PortraitRuleModel" (189 : Nat) (10 : Int64)) ∈ px_TB := px_TBi (List.mem_append_right _ (List.mem_of_getElem? (i := 807) (by decide +kernel))) rfl
theorem w_812 : (Jvm.Cond.constant "PortraitRuleModel" (191 : Nat) (65537 : Int32)) ∈ px_TB := px_TBi (List.mem_append_right _ (List.mem_of_getElem? (i := 812) (by decide +kernel))) rfl
theorem w_245 : (Jvm.Cond.constant "java/lang/Integer" (265 : Nat) (1431655765 : Int32)) ∈ px_TB := px_TBi (List.mem_append_right _ (List.mem_of_getElem? (i := 245) (by decide +kernel))) rfl
theorem w_246 : (Jvm.Cond.constant "java/lang/Integer" (266 : Nat) (858993459 : Int32)) ∈ px_TB := px_TBi (List.mem_append_right _ (List.mem_of_getElem? (i := 246) (by decide +kernel))) rfl
theorem w_247 : (Jvm.Cond.constant "java/lang/Integer" (267 : Nat) (252645135 : Int32)) ∈ px_TB := px_TBi (List.mem_append_right _ (List.mem_of_getElem? (i := 247) (by decide +kernel))) rfl
theorem w_9 : (Jvm.Cond.instantiable "PortraitRule" (10 : Nat)) ∈ px_TB := px_TBi (List.mem_append_right _ (List.mem_of_getElem? (i := 9) (by decide +kernel))) rfl
theorem w_8 : (Jvm.Cond.classLink "PortraitRuleLaw" (7 : Nat) "PortraitRule") ∈ px_TB := px_TBi (List.mem_append_right _ (List.mem_of_getElem? (i := 8) (by decide +kernel))) rfl
theorem w_1 : (Jvm.Cond.initialized "PortraitRule") ∈ px_TB := px_TBi (List.mem_append_right _ (List.mem_of_getElem? (i := 1) (by decide +kernel))) rfl
theorem w_10 : (Jvm.Cond.methodLink "PortraitRuleLaw" (9 : Nat) ({ cls := "PortraitRule", name := "<init>", desc := "()V" } : Jvm.MethodName)) ∈ px_TB := px_TBi (List.mem_append_right _ (List.mem_of_getElem? (i := 10) (by decide +kernel))) rfl
theorem w_11 : (Jvm.Cond.instanceMethod ({ cls := "PortraitRule", name := "<init>", desc := "()V" } : Jvm.MethodName)) ∈ px_TB := px_TBi (List.mem_append_right _ (List.mem_of_getElem? (i := 11) (by decide +kernel))) rfl
theorem w_501 : (Jvm.Cond.instantiable "PortraitRuleModel" (26 : Nat)) ∈ px_TB := px_TBi (List.mem_append_right _ (List.mem_of_getElem? (i := 501) (by decide +kernel))) rfl
theorem w_500 : (Jvm.Cond.classLink "PortraitRuleLaw" (10 : Nat) "PortraitRuleModel") ∈ px_TB := px_TBi (List.mem_append_right _ (List.mem_of_getElem? (i := 500) (by decide +kernel))) rfl
theorem w_4 : (Jvm.Cond.initialized "PortraitRuleModel") ∈ px_TB := px_TBi (List.mem_append_right _ (List.mem_of_getElem? (i := 4) (by decide +kernel))) rfl
theorem w_502 : (Jvm.Cond.methodLink "PortraitRuleLaw" (12 : Nat) ({ cls := "PortraitRuleModel", name := "<init>", desc := "()V" } : Jvm.MethodName)) ∈ px_TB := px_TBi (List.mem_append_right _ (List.mem_of_getElem? (i := 502) (by decide +kernel))) rfl
theorem w_503 : (Jvm.Cond.instanceMethod ({ cls := "PortraitRuleModel", name := "<init>", desc := "()V" } : Jvm.MethodName)) ∈ px_TB := px_TBi (List.mem_append_right _ (List.mem_of_getElem? (i := 503) (by decide +kernel))) rfl
theorem w_124 : (Jvm.Cond.methodLink "PortraitRuleLaw" (13 : Nat) ({ cls := "PortraitRule", name := "part", desc := "(IIII)I" } : Jvm.MethodName)) ∈ px_TB := px_TBi (List.mem_append_right _ (List.mem_of_getElem? (i := 124) (by decide +kernel))) rfl
theorem w_125 : (Jvm.Cond.instanceMethod ({ cls := "PortraitRule", name := "part", desc := "(IIII)I" } : Jvm.MethodName)) ∈ px_TB := px_TBi (List.mem_append_right _ (List.mem_of_getElem? (i := 125) (by decide +kernel))) rfl
theorem w_126 : (Jvm.Cond.selects "PortraitRule" ({ cls := "PortraitRule", name := "part", desc := "(IIII)I" } : Jvm.MethodName) ({ cls := "PortraitRule", name := "part", desc := "(IIII)I" } : Jvm.MethodName)) ∈ px_TB := px_TBi (List.mem_append_right _ (List.mem_of_getElem? (i := 126) (by decide +kernel))) rfl
theorem w_586 : (Jvm.Cond.methodLink "PortraitRuleLaw" (17 : Nat) ({ cls := "PortraitRuleModel", name := "part", desc := "(IIII)I" } : Jvm.MethodName)) ∈ px_TB := px_TBi (List.mem_append_right _ (List.mem_of_getElem? (i := 586) (by decide +kernel))) rfl
theorem w_587 : (Jvm.Cond.instanceMethod ({ cls := "PortraitRuleModel", name := "part", desc := "(IIII)I" } : Jvm.MethodName)) ∈ px_TB := px_TBi (List.mem_append_right _ (List.mem_of_getElem? (i := 587) (by decide +kernel))) rfl
theorem w_588 : (Jvm.Cond.selects "PortraitRuleModel" ({ cls := "PortraitRuleModel", name := "part", desc := "(IIII)I" } : Jvm.MethodName) ({ cls := "PortraitRuleModel", name := "part", desc := "(IIII)I" } : Jvm.MethodName)) ∈ px_TB := px_TBi (List.mem_append_right _ (List.mem_of_getElem? (i := 588) (by decide +kernel))) rfl
theorem w_146 : (Jvm.Cond.methodLink "PortraitRuleLaw" (18 : Nat) ({ cls := "PortraitRule", name := "needs", desc := "(II)I" } : Jvm.MethodName)) ∈ px_TB := px_TBi (List.mem_append_right _ (List.mem_of_getElem? (i := 146) (by decide +kernel))) rfl
theorem w_147 : (Jvm.Cond.instanceMethod ({ cls := "PortraitRule", name := "needs", desc := "(II)I" } : Jvm.MethodName)) ∈ px_TB := px_TBi (List.mem_append_right _ (List.mem_of_getElem? (i := 147) (by decide +kernel))) rfl
theorem w_148 : (Jvm.Cond.selects "PortraitRule" ({ cls := "PortraitRule", name := "needs", desc := "(II)I" } : Jvm.MethodName) ({ cls := "PortraitRule", name := "needs", desc := "(II)I" } : Jvm.MethodName)) ∈ px_TB := px_TBi (List.mem_append_right _ (List.mem_of_getElem? (i := 148) (by decide +kernel))) rfl
theorem w_603 : (Jvm.Cond.methodLink "PortraitRuleLaw" (22 : Nat) ({ cls := "PortraitRuleModel", name := "needs", desc := "(II)I" } : Jvm.MethodName)) ∈ px_TB := px_TBi (List.mem_append_right _ (List.mem_of_getElem? (i := 603) (by decide +kernel))) rfl
theorem w_604 : (Jvm.Cond.instanceMethod ({ cls := "PortraitRuleModel", name := "needs", desc := "(II)I" } : Jvm.MethodName)) ∈ px_TB := px_TBi (List.mem_append_right _ (List.mem_of_getElem? (i := 604) (by decide +kernel))) rfl
theorem w_605 : (Jvm.Cond.selects "PortraitRuleModel" ({ cls := "PortraitRuleModel", name := "needs", desc := "(II)I" } : Jvm.MethodName) ({ cls := "PortraitRuleModel", name := "needs", desc := "(II)I" } : Jvm.MethodName)) ∈ px_TB := px_TBi (List.mem_append_right _ (List.mem_of_getElem? (i := 605) (by decide +kernel))) rfl
theorem w_150 : (Jvm.Cond.methodLink "PortraitRuleLaw" (23 : Nat) ({ cls := "PortraitRule", name := "say", desc := "(I)I" } : Jvm.MethodName)) ∈ px_TB := px_TBi (List.mem_append_right _ (List.mem_of_getElem? (i := 150) (by decide +kernel))) rfl
theorem w_151 : (Jvm.Cond.instanceMethod ({ cls := "PortraitRule", name := "say", desc := "(I)I" } : Jvm.MethodName)) ∈ px_TB := px_TBi (List.mem_append_right _ (List.mem_of_getElem? (i := 151) (by decide +kernel))) rfl
theorem w_152 : (Jvm.Cond.selects "PortraitRule" ({ cls := "PortraitRule", name := "say", desc := "(I)I" } : Jvm.MethodName) ({ cls := "PortraitRule", name := "say", desc := "(I)I" } : Jvm.MethodName)) ∈ px_TB := px_TBi (List.mem_append_right _ (List.mem_of_getElem? (i := 152) (by decide +kernel))) rfl
theorem w_607 : (Jvm.Cond.methodLink "PortraitRuleLaw" (27 : Nat) ({ cls := "PortraitRuleModel", name := "say", desc := "(I)I" } : Jvm.MethodName)) ∈ px_TB := px_TBi (List.mem_append_right _ (List.mem_of_getElem? (i := 607) (by decide +kernel))) rfl
theorem w_608 : (Jvm.Cond.instanceMethod ({ cls := "PortraitRuleModel", name := "say", desc := "(I)I" } : Jvm.MethodName)) ∈ px_TB := px_TBi (List.mem_append_right _ (List.mem_of_getElem? (i := 608) (by decide +kernel))) rfl
theorem w_609 : (Jvm.Cond.selects "PortraitRuleModel" ({ cls := "PortraitRuleModel", name := "say", desc := "(I)I" } : Jvm.MethodName) ({ cls := "PortraitRuleModel", name := "say", desc := "(I)I" } : Jvm.MethodName)) ∈ px_TB := px_TBi (List.mem_append_right _ (List.mem_of_getElem? (i := 609) (by decide +kernel))) rfl
theorem w_158 : (Jvm.Cond.methodLink "PortraitRuleLaw" (28 : Nat) ({ cls := "PortraitRule", name := "wipe", desc := "()I" } : Jvm.MethodName)) ∈ px_TB := px_TBi (List.mem_append_right _ (List.mem_of_getElem? (i := 158) (by decide +kernel))) rfl
theorem w_159 : (Jvm.Cond.instanceMethod ({ cls := "PortraitRule", name := "wipe", desc := "()I" } : Jvm.MethodName)) ∈ px_TB := px_TBi (List.mem_append_right _ (List.mem_of_getElem? (i := 159) (by decide +kernel))) rfl
theorem w_160 : (Jvm.Cond.selects "PortraitRule" ({ cls := "PortraitRule", name := "wipe", desc := "()I" } : Jvm.MethodName) ({ cls := "PortraitRule", name := "wipe", desc := "()I" } : Jvm.MethodName)) ∈ px_TB := px_TBi (List.mem_append_right _ (List.mem_of_getElem? (i := 160) (by decide +kernel))) rfl
theorem w_611 : (Jvm.Cond.methodLink "PortraitRuleLaw" (32 : Nat) ({ cls := "PortraitRuleModel", name := "wipe", desc := "()I" } : Jvm.MethodName)) ∈ px_TB := px_TBi (List.mem_append_right _ (List.mem_of_getElem? (i := 611) (by decide +kernel))) rfl
theorem w_612 : (Jvm.Cond.instanceMethod ({ cls := "PortraitRuleModel", name := "wipe", desc := "()I" } : Jvm.MethodName)) ∈ px_TB := px_TBi (List.mem_append_right _ (List.mem_of_getElem? (i := 612) (by decide +kernel))) rfl
theorem w_613 : (Jvm.Cond.selects "PortraitRuleModel" ({ cls := "PortraitRuleModel", name := "wipe", desc := "()I" } : Jvm.MethodName) ({ cls := "PortraitRuleModel", name := "wipe", desc := "()I" } : Jvm.MethodName)) ∈ px_TB := px_TBi (List.mem_append_right _ (List.mem_of_getElem? (i := 613) (by decide +kernel))) rfl
theorem w_162 : (Jvm.Cond.methodLink "PortraitRuleLaw" (33 : Nat) ({ cls := "PortraitRule", name := "fault", desc := "()I" } : Jvm.MethodName)) ∈ px_TB := px_TBi (List.mem_append_right _ (List.mem_of_getElem? (i := 162) (by decide +kernel))) rfl
theorem w_163 : (Jvm.Cond.instanceMethod ({ cls := "PortraitRule", name := "fault", desc := "()I" } : Jvm.MethodName)) ∈ px_TB := px_TBi (List.mem_append_right _ (List.mem_of_getElem? (i := 163) (by decide +kernel))) rfl
theorem w_164 : (Jvm.Cond.selects "PortraitRule" ({ cls := "PortraitRule", name := "fault", desc := "()I" } : Jvm.MethodName) ({ cls := "PortraitRule", name := "fault", desc := "()I" } : Jvm.MethodName)) ∈ px_TB := px_TBi (List.mem_append_right _ (List.mem_of_getElem? (i := 164) (by decide +kernel))) rfl
theorem w_615 : (Jvm.Cond.methodLink "PortraitRuleLaw" (36 : Nat) ({ cls := "PortraitRuleModel", name := "fault", desc := "()I" } : Jvm.MethodName)) ∈ px_TB := px_TBi (List.mem_append_right _ (List.mem_of_getElem? (i := 615) (by decide +kernel))) rfl
theorem w_616 : (Jvm.Cond.instanceMethod ({ cls := "PortraitRuleModel", name := "fault", desc := "()I" } : Jvm.MethodName)) ∈ px_TB := px_TBi (List.mem_append_right _ (List.mem_of_getElem? (i := 616) (by decide +kernel))) rfl
theorem w_617 : (Jvm.Cond.selects "PortraitRuleModel" ({ cls := "PortraitRuleModel", name := "fault", desc := "()I" } : Jvm.MethodName) ({ cls := "PortraitRuleModel", name := "fault", desc := "()I" } : Jvm.MethodName)) ∈ px_TB := px_TBi (List.mem_append_right _ (List.mem_of_getElem? (i := 617) (by decide +kernel))) rfl
theorem w_177 : (Jvm.Cond.methodLink "PortraitRuleLaw" (37 : Nat) ({ cls := "PortraitRule", name := "judge", desc := "(I)I" } : Jvm.MethodName)) ∈ px_TB := px_TBi (List.mem_append_right _ (List.mem_of_getElem? (i := 177) (by decide +kernel))) rfl
theorem w_178 : (Jvm.Cond.instanceMethod ({ cls := "PortraitRule", name := "judge", desc := "(I)I" } : Jvm.MethodName)) ∈ px_TB := px_TBi (List.mem_append_right _ (List.mem_of_getElem? (i := 178) (by decide +kernel))) rfl
theorem w_179 : (Jvm.Cond.selects "PortraitRule" ({ cls := "PortraitRule", name := "judge", desc := "(I)I" } : Jvm.MethodName) ({ cls := "PortraitRule", name := "judge", desc := "(I)I" } : Jvm.MethodName)) ∈ px_TB := px_TBi (List.mem_append_right _ (List.mem_of_getElem? (i := 179) (by decide +kernel))) rfl
theorem w_626 : (Jvm.Cond.methodLink "PortraitRuleLaw" (40 : Nat) ({ cls := "PortraitRuleModel", name := "judge", desc := "(I)I" } : Jvm.MethodName)) ∈ px_TB := px_TBi (List.mem_append_right _ (List.mem_of_getElem? (i := 626) (by decide +kernel))) rfl
theorem w_627 : (Jvm.Cond.instanceMethod ({ cls := "PortraitRuleModel", name := "judge", desc := "(I)I" } : Jvm.MethodName)) ∈ px_TB := px_TBi (List.mem_append_right _ (List.mem_of_getElem? (i := 627) (by decide +kernel))) rfl
theorem w_628 : (Jvm.Cond.selects "PortraitRuleModel" ({ cls := "PortraitRuleModel", name := "judge", desc := "(I)I" } : Jvm.MethodName) ({ cls := "PortraitRuleModel", name := "judge", desc := "(I)I" } : Jvm.MethodName)) ∈ px_TB := px_TBi (List.mem_append_right _ (List.mem_of_getElem? (i := 628) (by decide +kernel))) rfl
theorem w_248 : (Jvm.Cond.methodLink "PortraitRuleLaw" (41 : Nat) ({ cls := "PortraitRule", name := "done", desc := "()I" } : Jvm.MethodName)) ∈ px_TB := px_TBi (List.mem_append_right _ (List.mem_of_getElem? (i := 248) (by decide +kernel))) rfl
theorem w_249 : (Jvm.Cond.instanceMethod ({ cls := "PortraitRule", name := "done", desc := "()I" } : Jvm.MethodName)) ∈ px_TB := px_TBi (List.mem_append_right _ (List.mem_of_getElem? (i := 249) (by decide +kernel))) rfl
theorem w_250 : (Jvm.Cond.selects "PortraitRule" ({ cls := "PortraitRule", name := "done", desc := "()I" } : Jvm.MethodName) ({ cls := "PortraitRule", name := "done", desc := "()I" } : Jvm.MethodName)) ∈ px_TB := px_TBi (List.mem_append_right _ (List.mem_of_getElem? (i := 250) (by decide +kernel))) rfl
theorem w_670 : (Jvm.Cond.methodLink "PortraitRuleLaw" (44 : Nat) ({ cls := "PortraitRuleModel", name := "done", desc := "()I" } : Jvm.MethodName)) ∈ px_TB := px_TBi (List.mem_append_right _ (List.mem_of_getElem? (i := 670) (by decide +kernel))) rfl
theorem w_671 : (Jvm.Cond.instanceMethod ({ cls := "PortraitRuleModel", name := "done", desc := "()I" } : Jvm.MethodName)) ∈ px_TB := px_TBi (List.mem_append_right _ (List.mem_of_getElem? (i := 671) (by decide +kernel))) rfl
theorem w_672 : (Jvm.Cond.selects "PortraitRuleModel" ({ cls := "PortraitRuleModel", name := "done", desc := "()I" } : Jvm.MethodName) ({ cls := "PortraitRuleModel", name := "done", desc := "()I" } : Jvm.MethodName)) ∈ px_TB := px_TBi (List.mem_append_right _ (List.mem_of_getElem? (i := 672) (by decide +kernel))) rfl
theorem w_252 : (Jvm.Cond.methodLink "PortraitRuleLaw" (45 : Nat) ({ cls := "PortraitRule", name := "state", desc := "(I)I" } : Jvm.MethodName)) ∈ px_TB := px_TBi (List.mem_append_right _ (List.mem_of_getElem? (i := 252) (by decide +kernel))) rfl
theorem w_253 : (Jvm.Cond.instanceMethod ({ cls := "PortraitRule", name := "state", desc := "(I)I" } : Jvm.MethodName)) ∈ px_TB := px_TBi (List.mem_append_right _ (List.mem_of_getElem? (i := 253) (by decide +kernel))) rfl
theorem w_254 : (Jvm.Cond.selects "PortraitRule" ({ cls := "PortraitRule", name := "state", desc := "(I)I" } : Jvm.MethodName) ({ cls := "PortraitRule", name := "state", desc := "(I)I" } : Jvm.MethodName)) ∈ px_TB := px_TBi (List.mem_append_right _ (List.mem_of_getElem? (i := 254) (by decide +kernel))) rfl
theorem w_678 : (Jvm.Cond.methodLink "PortraitRuleLaw" (48 : Nat) ({ cls := "PortraitRuleModel", name := "state", desc := "(I)I" } : Jvm.MethodName)) ∈ px_TB := px_TBi (List.mem_append_right _ (List.mem_of_getElem? (i := 678) (by decide +kernel))) rfl
theorem w_679 : (Jvm.Cond.instanceMethod ({ cls := "PortraitRuleModel", name := "state", desc := "(I)I" } : Jvm.MethodName)) ∈ px_TB := px_TBi (List.mem_append_right _ (List.mem_of_getElem? (i := 679) (by decide +kernel))) rfl
theorem w_680 : (Jvm.Cond.selects "PortraitRuleModel" ({ cls := "PortraitRuleModel", name := "state", desc := "(I)I" } : Jvm.MethodName) ({ cls := "PortraitRuleModel", name := "state", desc := "(I)I" } : Jvm.MethodName)) ∈ px_TB := px_TBi (List.mem_append_right _ (List.mem_of_getElem? (i := 680) (by decide +kernel))) rfl
theorem w_260 : (Jvm.Cond.methodLink "PortraitRuleLaw" (49 : Nat) ({ cls := "PortraitRule", name := "behind", desc := "(I)I" } : Jvm.MethodName)) ∈ px_TB := px_TBi (List.mem_append_right _ (List.mem_of_getElem? (i := 260) (by decide +kernel))) rfl
theorem w_261 : (Jvm.Cond.instanceMethod ({ cls := "PortraitRule", name := "behind", desc := "(I)I" } : Jvm.MethodName)) ∈ px_TB := px_TBi (List.mem_append_right _ (List.mem_of_getElem? (i := 261) (by decide +kernel))) rfl
theorem w_262 : (Jvm.Cond.selects "PortraitRule" ({ cls := "PortraitRule", name := "behind", desc := "(I)I" } : Jvm.MethodName) ({ cls := "PortraitRule", name := "behind", desc := "(I)I" } : Jvm.MethodName)) ∈ px_TB := px_TBi (List.mem_append_right _ (List.mem_of_getElem? (i := 262) (by decide +kernel))) rfl
theorem w_686 : (Jvm.Cond.methodLink "PortraitRuleLaw" (52 : Nat) ({ cls := "PortraitRuleModel", name := "behind", desc := "(I)I" } : Jvm.MethodName)) ∈ px_TB := px_TBi (List.mem_append_right _ (List.mem_of_getElem? (i := 686) (by decide +kernel))) rfl
theorem w_687 : (Jvm.Cond.instanceMethod ({ cls := "PortraitRuleModel", name := "behind", desc := "(I)I" } : Jvm.MethodName)) ∈ px_TB := px_TBi (List.mem_append_right _ (List.mem_of_getElem? (i := 687) (by decide +kernel))) rfl
theorem w_688 : (Jvm.Cond.selects "PortraitRuleModel" ({ cls := "PortraitRuleModel", name := "behind", desc := "(I)I" } : Jvm.MethodName) ({ cls := "PortraitRuleModel", name := "behind", desc := "(I)I" } : Jvm.MethodName)) ∈ px_TB := px_TBi (List.mem_append_right _ (List.mem_of_getElem? (i := 688) (by decide +kernel))) rfl
theorem w_264 : (Jvm.Cond.methodLink "PortraitRuleLaw" (53 : Nat) ({ cls := "PortraitRule", name := "can", desc := "()I" } : Jvm.MethodName)) ∈ px_TB := px_TBi (List.mem_append_right _ (List.mem_of_getElem? (i := 264) (by decide +kernel))) rfl
theorem w_265 : (Jvm.Cond.instanceMethod ({ cls := "PortraitRule", name := "can", desc := "()I" } : Jvm.MethodName)) ∈ px_TB := px_TBi (List.mem_append_right _ (List.mem_of_getElem? (i := 265) (by decide +kernel))) rfl
theorem w_266 : (Jvm.Cond.selects "PortraitRule" ({ cls := "PortraitRule", name := "can", desc := "()I" } : Jvm.MethodName) ({ cls := "PortraitRule", name := "can", desc := "()I" } : Jvm.MethodName)) ∈ px_TB := px_TBi (List.mem_append_right _ (List.mem_of_getElem? (i := 266) (by decide +kernel))) rfl
theorem w_690 : (Jvm.Cond.methodLink "PortraitRuleLaw" (56 : Nat) ({ cls := "PortraitRuleModel", name := "can", desc := "()I" } : Jvm.MethodName)) ∈ px_TB := px_TBi (List.mem_append_right _ (List.mem_of_getElem? (i := 690) (by decide +kernel))) rfl
theorem w_691 : (Jvm.Cond.instanceMethod ({ cls := "PortraitRuleModel", name := "can", desc := "()I" } : Jvm.MethodName)) ∈ px_TB := px_TBi (List.mem_append_right _ (List.mem_of_getElem? (i := 691) (by decide +kernel))) rfl
theorem w_692 : (Jvm.Cond.selects "PortraitRuleModel" ({ cls := "PortraitRuleModel", name := "can", desc := "()I" } : Jvm.MethodName) ({ cls := "PortraitRuleModel", name := "can", desc := "()I" } : Jvm.MethodName)) ∈ px_TB := px_TBi (List.mem_append_right _ (List.mem_of_getElem? (i := 692) (by decide +kernel))) rfl
theorem w_269 : (Jvm.Cond.methodLink "PortraitRuleLaw" (57 : Nat) ({ cls := "PortraitRule", name := "lacks", desc := "(II)I" } : Jvm.MethodName)) ∈ px_TB := px_TBi (List.mem_append_right _ (List.mem_of_getElem? (i := 269) (by decide +kernel))) rfl
theorem w_270 : (Jvm.Cond.instanceMethod ({ cls := "PortraitRule", name := "lacks", desc := "(II)I" } : Jvm.MethodName)) ∈ px_TB := px_TBi (List.mem_append_right _ (List.mem_of_getElem? (i := 270) (by decide +kernel))) rfl
theorem w_271 : (Jvm.Cond.selects "PortraitRule" ({ cls := "PortraitRule", name := "lacks", desc := "(II)I" } : Jvm.MethodName) ({ cls := "PortraitRule", name := "lacks", desc := "(II)I" } : Jvm.MethodName)) ∈ px_TB := px_TBi (List.mem_append_right _ (List.mem_of_getElem? (i := 271) (by decide +kernel))) rfl
theorem w_694 : (Jvm.Cond.methodLink "PortraitRuleLaw" (60 : Nat) ({ cls := "PortraitRuleModel", name := "lacks", desc := "(II)I" } : Jvm.MethodName)) ∈ px_TB := px_TBi (List.mem_append_right _ (List.mem_of_getElem? (i := 694) (by decide +kernel))) rfl
theorem w_695 : (Jvm.Cond.instanceMethod ({ cls := "PortraitRuleModel", name := "lacks", desc := "(II)I" } : Jvm.MethodName)) ∈ px_TB := px_TBi (List.mem_append_right _ (List.mem_of_getElem? (i := 695) (by decide +kernel))) rfl
theorem w_696 : (Jvm.Cond.selects "PortraitRuleModel" ({ cls := "PortraitRuleModel", name := "lacks", desc := "(II)I" } : Jvm.MethodName) ({ cls := "PortraitRuleModel", name := "lacks", desc := "(II)I" } : Jvm.MethodName)) ∈ px_TB := px_TBi (List.mem_append_right _ (List.mem_of_getElem? (i := 696) (by decide +kernel))) rfl
theorem w_296 : (Jvm.Cond.methodLink "PortraitRuleLaw" (61 : Nat) ({ cls := "PortraitRule", name := "plan", desc := "(III)I" } : Jvm.MethodName)) ∈ px_TB := px_TBi (List.mem_append_right _ (List.mem_of_getElem? (i := 296) (by decide +kernel))) rfl
theorem w_297 : (Jvm.Cond.instanceMethod ({ cls := "PortraitRule", name := "plan", desc := "(III)I" } : Jvm.MethodName)) ∈ px_TB := px_TBi (List.mem_append_right _ (List.mem_of_getElem? (i := 297) (by decide +kernel))) rfl
theorem w_298 : (Jvm.Cond.selects "PortraitRule" ({ cls := "PortraitRule", name := "plan", desc := "(III)I" } : Jvm.MethodName) ({ cls := "PortraitRule", name := "plan", desc := "(III)I" } : Jvm.MethodName)) ∈ px_TB := px_TBi (List.mem_append_right _ (List.mem_of_getElem? (i := 298) (by decide +kernel))) rfl
theorem w_714 : (Jvm.Cond.methodLink "PortraitRuleLaw" (65 : Nat) ({ cls := "PortraitRuleModel", name := "plan", desc := "(III)I" } : Jvm.MethodName)) ∈ px_TB := px_TBi (List.mem_append_right _ (List.mem_of_getElem? (i := 714) (by decide +kernel))) rfl
theorem w_715 : (Jvm.Cond.instanceMethod ({ cls := "PortraitRuleModel", name := "plan", desc := "(III)I" } : Jvm.MethodName)) ∈ px_TB := px_TBi (List.mem_append_right _ (List.mem_of_getElem? (i := 715) (by decide +kernel))) rfl
theorem w_716 : (Jvm.Cond.selects "PortraitRuleModel" ({ cls := "PortraitRuleModel", name := "plan", desc := "(III)I" } : Jvm.MethodName) ({ cls := "PortraitRuleModel", name := "plan", desc := "(III)I" } : Jvm.MethodName)) ∈ px_TB := px_TBi (List.mem_append_right _ (List.mem_of_getElem? (i := 716) (by decide +kernel))) rfl
theorem w_300 : (Jvm.Cond.methodLink "PortraitRuleLaw" (66 : Nat) ({ cls := "PortraitRule", name := "orders", desc := "()I" } : Jvm.MethodName)) ∈ px_TB := px_TBi (List.mem_append_right _ (List.mem_of_getElem? (i := 300) (by decide +kernel))) rfl
theorem w_301 : (Jvm.Cond.instanceMethod ({ cls := "PortraitRule", name := "orders", desc := "()I" } : Jvm.MethodName)) ∈ px_TB := px_TBi (List.mem_append_right _ (List.mem_of_getElem? (i := 301) (by decide +kernel))) rfl
theorem w_302 : (Jvm.Cond.selects "PortraitRule" ({ cls := "PortraitRule", name := "orders", desc := "()I" } : Jvm.MethodName) ({ cls := "PortraitRule", name := "orders", desc := "()I" } : Jvm.MethodName)) ∈ px_TB := px_TBi (List.mem_append_right _ (List.mem_of_getElem? (i := 302) (by decide +kernel))) rfl
theorem w_718 : (Jvm.Cond.methodLink "PortraitRuleLaw" (69 : Nat) ({ cls := "PortraitRuleModel", name := "orders", desc := "()I" } : Jvm.MethodName)) ∈ px_TB := px_TBi (List.mem_append_right _ (List.mem_of_getElem? (i := 718) (by decide +kernel))) rfl
theorem w_719 : (Jvm.Cond.instanceMethod ({ cls := "PortraitRuleModel", name := "orders", desc := "()I" } : Jvm.MethodName)) ∈ px_TB := px_TBi (List.mem_append_right _ (List.mem_of_getElem? (i := 719) (by decide +kernel))) rfl
theorem w_720 : (Jvm.Cond.selects "PortraitRuleModel" ({ cls := "PortraitRuleModel", name := "orders", desc := "()I" } : Jvm.MethodName) ({ cls := "PortraitRuleModel", name := "orders", desc := "()I" } : Jvm.MethodName)) ∈ px_TB := px_TBi (List.mem_append_right _ (List.mem_of_getElem? (i := 720) (by decide +kernel))) rfl
theorem w_312 : (Jvm.Cond.methodLink "PortraitRuleLaw" (70 : Nat) ({ cls := "PortraitRule", name := "bar", desc := "(II)I" } : Jvm.MethodName)) ∈ px_TB := px_TBi (List.mem_append_right _ (List.mem_of_getElem? (i := 312) (by decide +kernel))) rfl
theorem w_313 : (Jvm.Cond.instanceMethod ({ cls := "PortraitRule", name := "bar", desc := "(II)I" } : Jvm.MethodName)) ∈ px_TB := px_TBi (List.mem_append_right _ (List.mem_of_getElem? (i := 313) (by decide +kernel))) rfl
theorem w_314 : (Jvm.Cond.selects "PortraitRule" ({ cls := "PortraitRule", name := "bar", desc := "(II)I" } : Jvm.MethodName) ({ cls := "PortraitRule", name := "bar", desc := "(II)I" } : Jvm.MethodName)) ∈ px_TB := px_TBi (List.mem_append_right _ (List.mem_of_getElem? (i := 314) (by decide +kernel))) rfl
theorem w_722 : (Jvm.Cond.methodLink "PortraitRuleLaw" (73 : Nat) ({ cls := "PortraitRuleModel", name := "bar", desc := "(II)I" } : Jvm.MethodName)) ∈ px_TB := px_TBi (List.mem_append_right _ (List.mem_of_getElem? (i := 722) (by decide +kernel))) rfl
theorem w_723 : (Jvm.Cond.instanceMethod ({ cls := "PortraitRuleModel", name := "bar", desc := "(II)I" } : Jvm.MethodName)) ∈ px_TB := px_TBi (List.mem_append_right _ (List.mem_of_getElem? (i := 723) (by decide +kernel))) rfl
theorem w_724 : (Jvm.Cond.selects "PortraitRuleModel" ({ cls := "PortraitRuleModel", name := "bar", desc := "(II)I" } : Jvm.MethodName) ({ cls := "PortraitRuleModel", name := "bar", desc := "(II)I" } : Jvm.MethodName)) ∈ px_TB := px_TBi (List.mem_append_right _ (List.mem_of_getElem? (i := 724) (by decide +kernel))) rfl
theorem w_332 : (Jvm.Cond.methodLink "PortraitRuleLaw" (74 : Nat) ({ cls := "PortraitRule", name := "falls", desc := "(II)I" } : Jvm.MethodName)) ∈ px_TB := px_TBi (List.mem_append_right _ (List.mem_of_getElem? (i := 332) (by decide +kernel))) rfl
theorem w_333 : (Jvm.Cond.instanceMethod ({ cls := "PortraitRule", name := "falls", desc := "(II)I" } : Jvm.MethodName)) ∈ px_TB := px_TBi (List.mem_append_right _ (List.mem_of_getElem? (i := 333) (by decide +kernel))) rfl
theorem w_334 : (Jvm.Cond.selects "PortraitRule" ({ cls := "PortraitRule", name := "falls", desc := "(II)I" } : Jvm.MethodName) ({ cls := "PortraitRule", name := "falls", desc := "(II)I" } : Jvm.MethodName)) ∈ px_TB := px_TBi (List.mem_append_right _ (List.mem_of_getElem? (i := 334) (by decide +kernel))) rfl
theorem w_733 : (Jvm.Cond.methodLink "PortraitRuleLaw" (77 : Nat) ({ cls := "PortraitRuleModel", name := "falls", desc := "(II)I" } : Jvm.MethodName)) ∈ px_TB := px_TBi (List.mem_append_right _ (List.mem_of_getElem? (i := 733) (by decide +kernel))) rfl
theorem w_734 : (Jvm.Cond.instanceMethod ({ cls := "PortraitRuleModel", name := "falls", desc := "(II)I" } : Jvm.MethodName)) ∈ px_TB := px_TBi (List.mem_append_right _ (List.mem_of_getElem? (i := 734) (by decide +kernel))) rfl
theorem w_735 : (Jvm.Cond.selects "PortraitRuleModel" ({ cls := "PortraitRuleModel", name := "falls", desc := "(II)I" } : Jvm.MethodName) ({ cls := "PortraitRuleModel", name := "falls", desc := "(II)I" } : Jvm.MethodName)) ∈ px_TB := px_TBi (List.mem_append_right _ (List.mem_of_getElem? (i := 735) (by decide +kernel))) rfl
theorem w_340 : (Jvm.Cond.methodLink "PortraitRuleLaw" (78 : Nat) ({ cls := "PortraitRule", name := "alone", desc := "(I)I" } : Jvm.MethodName)) ∈ px_TB := px_TBi (List.mem_append_right _ (List.mem_of_getElem? (i := 340) (by decide +kernel))) rfl
theorem w_341 : (Jvm.Cond.instanceMethod ({ cls := "PortraitRule", name := "alone", desc := "(I)I" } : Jvm.MethodName)) ∈ px_TB := px_TBi (List.mem_append_right _ (List.mem_of_getElem? (i := 341) (by decide +kernel))) rfl
theorem w_342 : (Jvm.Cond.selects "PortraitRule" ({ cls := "PortraitRule", name := "alone", desc := "(I)I" } : Jvm.MethodName) ({ cls := "PortraitRule", name := "alone", desc := "(I)I" } : Jvm.MethodName)) ∈ px_TB := px_TBi (List.mem_append_right _ (List.mem_of_getElem? (i := 342) (by decide +kernel))) rfl
theorem w_737 : (Jvm.Cond.methodLink "PortraitRuleLaw" (81 : Nat) ({ cls := "PortraitRuleModel", name := "alone", desc := "(I)I" } : Jvm.MethodName)) ∈ px_TB := px_TBi (List.mem_append_right _ (List.mem_of_getElem? (i := 737) (by decide +kernel))) rfl
theorem w_738 : (Jvm.Cond.instanceMethod ({ cls := "PortraitRuleModel", name := "alone", desc := "(I)I" } : Jvm.MethodName)) ∈ px_TB := px_TBi (List.mem_append_right _ (List.mem_of_getElem? (i := 738) (by decide +kernel))) rfl
theorem w_739 : (Jvm.Cond.selects "PortraitRuleModel" ({ cls := "PortraitRuleModel", name := "alone", desc := "(I)I" } : Jvm.MethodName) ({ cls := "PortraitRuleModel", name := "alone", desc := "(I)I" } : Jvm.MethodName)) ∈ px_TB := px_TBi (List.mem_append_right _ (List.mem_of_getElem? (i := 739) (by decide +kernel))) rfl
theorem w_348 : (Jvm.Cond.methodLink "PortraitRuleLaw" (82 : Nat) ({ cls := "PortraitRule", name := "guard", desc := "(II)I" } : Jvm.MethodName)) ∈ px_TB := px_TBi (List.mem_append_right _ (List.mem_of_getElem? (i := 348) (by decide +kernel))) rfl
theorem w_349 : (Jvm.Cond.instanceMethod ({ cls := "PortraitRule", name := "guard", desc := "(II)I" } : Jvm.MethodName)) ∈ px_TB := px_TBi (List.mem_append_right _ (List.mem_of_getElem? (i := 349) (by decide +kernel))) rfl
theorem w_350 : (Jvm.Cond.selects "PortraitRule" ({ cls := "PortraitRule", name := "guard", desc := "(II)I" } : Jvm.MethodName) ({ cls := "PortraitRule", name := "guard", desc := "(II)I" } : Jvm.MethodName)) ∈ px_TB := px_TBi (List.mem_append_right _ (List.mem_of_getElem? (i := 350) (by decide +kernel))) rfl
theorem w_745 : (Jvm.Cond.methodLink "PortraitRuleLaw" (85 : Nat) ({ cls := "PortraitRuleModel", name := "guard", desc := "(II)I" } : Jvm.MethodName)) ∈ px_TB := px_TBi (List.mem_append_right _ (List.mem_of_getElem? (i := 745) (by decide +kernel))) rfl
theorem w_746 : (Jvm.Cond.instanceMethod ({ cls := "PortraitRuleModel", name := "guard", desc := "(II)I" } : Jvm.MethodName)) ∈ px_TB := px_TBi (List.mem_append_right _ (List.mem_of_getElem? (i := 746) (by decide +kernel))) rfl
theorem w_747 : (Jvm.Cond.selects "PortraitRuleModel" ({ cls := "PortraitRuleModel", name := "guard", desc := "(II)I" } : Jvm.MethodName) ({ cls := "PortraitRuleModel", name := "guard", desc := "(II)I" } : Jvm.MethodName)) ∈ px_TB := px_TBi (List.mem_append_right _ (List.mem_of_getElem? (i := 747) (by decide +kernel))) rfl
theorem w_356 : (Jvm.Cond.methodLink "PortraitRuleLaw" (86 : Nat) ({ cls := "PortraitRule", name := "seen", desc := "(IIZ)I" } : Jvm.MethodName)) ∈ px_TB := px_TBi (List.mem_append_right _ (List.mem_of_getElem? (i := 356) (by decide +kernel))) rfl
theorem w_357 : (Jvm.Cond.instanceMethod ({ cls := "PortraitRule", name := "seen", desc := "(IIZ)I" } : Jvm.MethodName)) ∈ px_TB := px_TBi (List.mem_append_right _ (List.mem_of_getElem? (i := 357) (by decide +kernel))) rfl
theorem w_358 : (Jvm.Cond.selects "PortraitRule" ({ cls := "PortraitRule", name := "seen", desc := "(IIZ)I" } : Jvm.MethodName) ({ cls := "PortraitRule", name := "seen", desc := "(IIZ)I" } : Jvm.MethodName)) ∈ px_TB := px_TBi (List.mem_append_right _ (List.mem_of_getElem? (i := 358) (by decide +kernel))) rfl
theorem w_749 : (Jvm.Cond.methodLink "PortraitRuleLaw" (90 : Nat) ({ cls := "PortraitRuleModel", name := "seen", desc := "(IIZ)I" } : Jvm.MethodName)) ∈ px_TB := px_TBi (List.mem_append_right _ (List.mem_of_getElem? (i := 749) (by decide +kernel))) rfl
theorem w_750 : (Jvm.Cond.instanceMethod ({ cls := "PortraitRuleModel", name := "seen", desc := "(IIZ)I" } : Jvm.MethodName)) ∈ px_TB := px_TBi (List.mem_append_right _ (List.mem_of_getElem? (i := 750) (by decide +kernel))) rfl
theorem w_751 : (Jvm.Cond.selects "PortraitRuleModel" ({ cls := "PortraitRuleModel", name := "seen", desc := "(IIZ)I" } : Jvm.MethodName) ({ cls := "PortraitRuleModel", name := "seen", desc := "(IIZ)I" } : Jvm.MethodName)) ∈ px_TB := px_TBi (List.mem_append_right _ (List.mem_of_getElem? (i := 751) (by decide +kernel))) rfl
theorem w_364 : (Jvm.Cond.methodLink "PortraitRuleLaw" (91 : Nat) ({ cls := "PortraitRule", name := "forget", desc := "()I" } : Jvm.MethodName)) ∈ px_TB := px_TBi (List.mem_append_right _ (List.mem_of_getElem? (i := 364) (by decide +kernel))) rfl
theorem w_365 : (Jvm.Cond.instanceMethod ({ cls := "PortraitRule", name := "forget", desc := "()I" } : Jvm.MethodName)) ∈ px_TB := px_TBi (List.mem_append_right _ (List.mem_of_getElem? (i := 365) (by decide +kernel))) rfl
theorem w_366 : (Jvm.Cond.selects "PortraitRule" ({ cls := "PortraitRule", name := "forget", desc := "()I" } : Jvm.MethodName) ({ cls := "PortraitRule", name := "forget", desc := "()I" } : Jvm.MethodName)) ∈ px_TB := px_TBi (List.mem_append_right _ (List.mem_of_getElem? (i := 366) (by decide +kernel))) rfl
theorem w_753 : (Jvm.Cond.methodLink "PortraitRuleLaw" (94 : Nat) ({ cls := "PortraitRuleModel", name := "forget", desc := "()I" } : Jvm.MethodName)) ∈ px_TB := px_TBi (List.mem_append_right _ (List.mem_of_getElem? (i := 753) (by decide +kernel))) rfl
theorem w_754 : (Jvm.Cond.instanceMethod ({ cls := "PortraitRuleModel", name := "forget", desc := "()I" } : Jvm.MethodName)) ∈ px_TB := px_TBi (List.mem_append_right _ (List.mem_of_getElem? (i := 754) (by decide +kernel))) rfl
theorem w_755 : (Jvm.Cond.selects "PortraitRuleModel" ({ cls := "PortraitRuleModel", name := "forget", desc := "()I" } : Jvm.MethodName) ({ cls := "PortraitRuleModel", name := "forget", desc := "()I" } : Jvm.MethodName)) ∈ px_TB := px_TBi (List.mem_append_right _ (List.mem_of_getElem? (i := 755) (by decide +kernel))) rfl
theorem w_368 : (Jvm.Cond.methodLink "PortraitRuleLaw" (95 : Nat) ({ cls := "PortraitRule", name := "hidden", desc := "(I)I" } : Jvm.MethodName)) ∈ px_TB := px_TBi (List.mem_append_right _ (List.mem_of_getElem? (i := 368) (by decide +kernel))) rfl
theorem w_369 : (Jvm.Cond.instanceMethod ({ cls := "PortraitRule", name := "hidden", desc := "(I)I" } : Jvm.MethodName)) ∈ px_TB := px_TBi (List.mem_append_right _ (List.mem_of_getElem? (i := 369) (by decide +kernel))) rfl
theorem w_370 : (Jvm.Cond.selects "PortraitRule" ({ cls := "PortraitRule", name := "hidden", desc := "(I)I" } : Jvm.MethodName) ({ cls := "PortraitRule", name := "hidden", desc := "(I)I" } : Jvm.MethodName)) ∈ px_TB := px_TBi (List.mem_append_right _ (List.mem_of_getElem? (i := 370) (by decide +kernel))) rfl
theorem w_757 : (Jvm.Cond.methodLink "PortraitRuleLaw" (98 : Nat) ({ cls := "PortraitRuleModel", name := "hidden", desc := "(I)I" } : Jvm.MethodName)) ∈ px_TB := px_TBi (List.mem_append_right _ (List.mem_of_getElem? (i := 757) (by decide +kernel))) rfl
theorem w_758 : (Jvm.Cond.instanceMethod ({ cls := "PortraitRuleModel", name := "hidden", desc := "(I)I" } : Jvm.MethodName)) ∈ px_TB := px_TBi (List.mem_append_right _ (List.mem_of_getElem? (i := 758) (by decide +kernel))) rfl
theorem w_759 : (Jvm.Cond.selects "PortraitRuleModel" ({ cls := "PortraitRuleModel", name := "hidden", desc := "(I)I" } : Jvm.MethodName) ({ cls := "PortraitRuleModel", name := "hidden", desc := "(I)I" } : Jvm.MethodName)) ∈ px_TB := px_TBi (List.mem_append_right _ (List.mem_of_getElem? (i := 759) (by decide +kernel))) rfl
theorem w_404 : (Jvm.Cond.methodLink "PortraitRuleLaw" (99 : Nat) ({ cls := "PortraitRule", name := "tries", desc := "(I)I" } : Jvm.MethodName)) ∈ px_TB := px_TBi (List.mem_append_right _ (List.mem_of_getElem? (i := 404) (by decide +kernel))) rfl
theorem w_405 : (Jvm.Cond.instanceMethod ({ cls := "PortraitRule", name := "tries", desc := "(I)I" } : Jvm.MethodName)) ∈ px_TB := px_TBi (List.mem_append_right _ (List.mem_of_getElem? (i := 405) (by decide +kernel))) rfl
theorem w_406 : (Jvm.Cond.selects "PortraitRule" ({ cls := "PortraitRule", name := "tries", desc := "(I)I" } : Jvm.MethodName) ({ cls := "PortraitRule", name := "tries", desc := "(I)I" } : Jvm.MethodName)) ∈ px_TB := px_TBi (List.mem_append_right _ (List.mem_of_getElem? (i := 406) (by decide +kernel))) rfl
theorem w_769 : (Jvm.Cond.methodLink "PortraitRuleLaw" (102 : Nat) ({ cls := "PortraitRuleModel", name := "tries", desc := "(I)I" } : Jvm.MethodName)) ∈ px_TB := px_TBi (List.mem_append_right _ (List.mem_of_getElem? (i := 769) (by decide +kernel))) rfl
theorem w_770 : (Jvm.Cond.instanceMethod ({ cls := "PortraitRuleModel", name := "tries", desc := "(I)I" } : Jvm.MethodName)) ∈ px_TB := px_TBi (List.mem_append_right _ (List.mem_of_getElem? (i := 770) (by decide +kernel))) rfl
theorem w_771 : (Jvm.Cond.selects "PortraitRuleModel" ({ cls := "PortraitRuleModel", name := "tries", desc := "(I)I" } : Jvm.MethodName) ({ cls := "PortraitRuleModel", name := "tries", desc := "(I)I" } : Jvm.MethodName)) ∈ px_TB := px_TBi (List.mem_append_right _ (List.mem_of_getElem? (i := 771) (by decide +kernel))) rfl
theorem w_415 : (Jvm.Cond.methodLink "PortraitRuleLaw" (103 : Nat) ({ cls := "PortraitRule", name := "send", desc := "(I)I" } : Jvm.MethodName)) ∈ px_TB := px_TBi (List.mem_append_right _ (List.mem_of_getElem? (i := 415) (by decide +kernel))) rfl
theorem w_416 : (Jvm.Cond.instanceMethod ({ cls := "PortraitRule", name := "send", desc := "(I)I" } : Jvm.MethodName)) ∈ px_TB := px_TBi (List.mem_append_right _ (List.mem_of_getElem? (i := 416) (by decide +kernel))) rfl
theorem w_417 : (Jvm.Cond.selects "PortraitRule" ({ cls := "PortraitRule", name := "send", desc := "(I)I" } : Jvm.MethodName) ({ cls := "PortraitRule", name := "send", desc := "(I)I" } : Jvm.MethodName)) ∈ px_TB := px_TBi (List.mem_append_right _ (List.mem_of_getElem? (i := 417) (by decide +kernel))) rfl
theorem w_774 : (Jvm.Cond.methodLink "PortraitRuleLaw" (106 : Nat) ({ cls := "PortraitRuleModel", name := "send", desc := "(I)I" } : Jvm.MethodName)) ∈ px_TB := px_TBi (List.mem_append_right _ (List.mem_of_getElem? (i := 774) (by decide +kernel))) rfl
theorem w_775 : (Jvm.Cond.instanceMethod ({ cls := "PortraitRuleModel", name := "send", desc := "(I)I" } : Jvm.MethodName)) ∈ px_TB := px_TBi (List.mem_append_right _ (List.mem_of_getElem? (i := 775) (by decide +kernel))) rfl
theorem w_776 : (Jvm.Cond.selects "PortraitRuleModel" ({ cls := "PortraitRuleModel", name := "send", desc := "(I)I" } : Jvm.MethodName) ({ cls := "PortraitRuleModel", name := "send", desc := "(I)I" } : Jvm.MethodName)) ∈ px_TB := px_TBi (List.mem_append_right _ (List.mem_of_getElem? (i := 776) (by decide +kernel))) rfl
theorem w_422 : (Jvm.Cond.methodLink "PortraitRuleLaw" (107 : Nat) ({ cls := "PortraitRule", name := "makes", desc := "(I)I" } : Jvm.MethodName)) ∈ px_TB := px_TBi (List.mem_append_right _ (List.mem_of_getElem? (i := 422) (by decide +kernel))) rfl
theorem w_423 : (Jvm.Cond.instanceMethod ({ cls := "PortraitRule", name := "makes", desc := "(I)I" } : Jvm.MethodName)) ∈ px_TB := px_TBi (List.mem_append_right _ (List.mem_of_getElem? (i := 423) (by decide +kernel))) rfl
theorem w_424 : (Jvm.Cond.selects "PortraitRule" ({ cls := "PortraitRule", name := "makes", desc := "(I)I" } : Jvm.MethodName) ({ cls := "PortraitRule", name := "makes", desc := "(I)I" } : Jvm.MethodName)) ∈ px_TB := px_TBi (List.mem_append_right _ (List.mem_of_getElem? (i := 424) (by decide +kernel))) rfl
theorem w_781 : (Jvm.Cond.methodLink "PortraitRuleLaw" (110 : Nat) ({ cls := "PortraitRuleModel", name := "makes", desc := "(I)I" } : Jvm.MethodName)) ∈ px_TB := px_TBi (List.mem_append_right _ (List.mem_of_getElem? (i := 781) (by decide +kernel))) rfl
theorem w_782 : (Jvm.Cond.instanceMethod ({ cls := "PortraitRuleModel", name := "makes", desc := "(I)I" } : Jvm.MethodName)) ∈ px_TB := px_TBi (List.mem_append_right _ (List.mem_of_getElem? (i := 782) (by decide +kernel))) rfl
theorem w_783 : (Jvm.Cond.selects "PortraitRuleModel" ({ cls := "PortraitRuleModel", name := "makes", desc := "(I)I" } : Jvm.MethodName) ({ cls := "PortraitRuleModel", name := "makes", desc := "(I)I" } : Jvm.MethodName)) ∈ px_TB := px_TBi (List.mem_append_right _ (List.mem_of_getElem? (i := 783) (by decide +kernel))) rfl
theorem w_426 : (Jvm.Cond.methodLink "PortraitRuleLaw" (111 : Nat) ({ cls := "PortraitRule", name := "quarrel", desc := "(II)I" } : Jvm.MethodName)) ∈ px_TB := px_TBi (List.mem_append_right _ (List.mem_of_getElem? (i := 426) (by decide +kernel))) rfl
theorem w_427 : (Jvm.Cond.instanceMethod ({ cls := "PortraitRule", name := "quarrel", desc := "(II)I" } : Jvm.MethodName)) ∈ px_TB := px_TBi (List.mem_append_right _ (List.mem_of_getElem? (i := 427) (by decide +kernel))) rfl
theorem w_428 : (Jvm.Cond.selects "PortraitRule" ({ cls := "PortraitRule", name := "quarrel", desc := "(II)I" } : Jvm.MethodName) ({ cls := "PortraitRule", name := "quarrel", desc := "(II)I" } : Jvm.MethodName)) ∈ px_TB := px_TBi (List.mem_append_right _ (List.mem_of_getElem? (i := 428) (by decide +kernel))) rfl
theorem w_789 : (Jvm.Cond.methodLink "PortraitRuleLaw" (114 : Nat) ({ cls := "PortraitRuleModel", name := "quarrel", desc := "(II)I" } : Jvm.MethodName)) ∈ px_TB := px_TBi (List.mem_append_right _ (List.mem_of_getElem? (i := 789) (by decide +kernel))) rfl
theorem w_790 : (Jvm.Cond.instanceMethod ({ cls := "PortraitRuleModel", name := "quarrel", desc := "(II)I" } : Jvm.MethodName)) ∈ px_TB := px_TBi (List.mem_append_right _ (List.mem_of_getElem? (i := 790) (by decide +kernel))) rfl
theorem w_791 : (Jvm.Cond.selects "PortraitRuleModel" ({ cls := "PortraitRuleModel", name := "quarrel", desc := "(II)I" } : Jvm.MethodName) ({ cls := "PortraitRuleModel", name := "quarrel", desc := "(II)I" } : Jvm.MethodName)) ∈ px_TB := px_TBi (List.mem_append_right _ (List.mem_of_getElem? (i := 791) (by decide +kernel))) rfl
theorem w_430 : (Jvm.Cond.methodLink "PortraitRuleLaw" (115 : Nat) ({ cls := "PortraitRule", name := "sent", desc := "()I" } : Jvm.MethodName)) ∈ px_TB := px_TBi (List.mem_append_right _ (List.mem_of_getElem? (i := 430) (by decide +kernel))) rfl
theorem w_431 : (Jvm.Cond.instanceMethod ({ cls := "PortraitRule", name := "sent", desc := "()I" } : Jvm.MethodName)) ∈ px_TB := px_TBi (List.mem_append_right _ (List.mem_of_getElem? (i := 431) (by decide +kernel))) rfl
theorem w_432 : (Jvm.Cond.selects "PortraitRule" ({ cls := "PortraitRule", name := "sent", desc := "()I" } : Jvm.MethodName) ({ cls := "PortraitRule", name := "sent", desc := "()I" } : Jvm.MethodName)) ∈ px_TB := px_TBi (List.mem_append_right _ (List.mem_of_getElem? (i := 432) (by decide +kernel))) rfl
theorem w_793 : (Jvm.Cond.methodLink "PortraitRuleLaw" (118 : Nat) ({ cls := "PortraitRuleModel", name := "sent", desc := "()I" } : Jvm.MethodName)) ∈ px_TB := px_TBi (List.mem_append_right _ (List.mem_of_getElem? (i := 793) (by decide +kernel))) rfl
theorem w_794 : (Jvm.Cond.instanceMethod ({ cls := "PortraitRuleModel", name := "sent", desc := "()I" } : Jvm.MethodName)) ∈ px_TB := px_TBi (List.mem_append_right _ (List.mem_of_getElem? (i := 794) (by decide +kernel))) rfl
theorem w_795 : (Jvm.Cond.selects "PortraitRuleModel" ({ cls := "PortraitRuleModel", name := "sent", desc := "()I" } : Jvm.MethodName) ({ cls := "PortraitRuleModel", name := "sent", desc := "()I" } : Jvm.MethodName)) ∈ px_TB := px_TBi (List.mem_append_right _ (List.mem_of_getElem? (i := 795) (by decide +kernel))) rfl
theorem w_434 : (Jvm.Cond.methodLink "PortraitRuleLaw" (119 : Nat) ({ cls := "PortraitRule", name := "turns", desc := "(II)I" } : Jvm.MethodName)) ∈ px_TB := px_TBi (List.mem_append_right _ (List.mem_of_getElem? (i := 434) (by decide +kernel))) rfl
theorem w_435 : (Jvm.Cond.instanceMethod ({ cls := "PortraitRule", name := "turns", desc := "(II)I" } : Jvm.MethodName)) ∈ px_TB := px_TBi (List.mem_append_right _ (List.mem_of_getElem? (i := 435) (by decide +kernel))) rfl
theorem w_436 : (Jvm.Cond.selects "PortraitRule" ({ cls := "PortraitRule", name := "turns", desc := "(II)I" } : Jvm.MethodName) ({ cls := "PortraitRule", name := "turns", desc := "(II)I" } : Jvm.MethodName)) ∈ px_TB := px_TBi (List.mem_append_right _ (List.mem_of_getElem? (i := 436) (by decide +kernel))) rfl
theorem w_797 : (Jvm.Cond.methodLink "PortraitRuleLaw" (122 : Nat) ({ cls := "PortraitRuleModel", name := "turns", desc := "(II)I" } : Jvm.MethodName)) ∈ px_TB := px_TBi (List.mem_append_right _ (List.mem_of_getElem? (i := 797) (by decide +kernel))) rfl
theorem w_798 : (Jvm.Cond.instanceMethod ({ cls := "PortraitRuleModel", name := "turns", desc := "(II)I" } : Jvm.MethodName)) ∈ px_TB := px_TBi (List.mem_append_right _ (List.mem_of_getElem? (i := 798) (by decide +kernel))) rfl
theorem w_799 : (Jvm.Cond.selects "PortraitRuleModel" ({ cls := "PortraitRuleModel", name := "turns", desc := "(II)I" } : Jvm.MethodName) ({ cls := "PortraitRuleModel", name := "turns", desc := "(II)I" } : Jvm.MethodName)) ∈ px_TB := px_TBi (List.mem_append_right _ (List.mem_of_getElem? (i := 799) (by decide +kernel))) rfl
theorem w_446 : (Jvm.Cond.methodLink "PortraitRuleLaw" (123 : Nat) ({ cls := "PortraitRule", name := "fever", desc := "(IIIII)J" } : Jvm.MethodName)) ∈ px_TB := px_TBi (List.mem_append_right _ (List.mem_of_getElem? (i := 446) (by decide +kernel))) rfl
theorem w_447 : (Jvm.Cond.instanceMethod ({ cls := "PortraitRule", name := "fever", desc := "(IIIII)J" } : Jvm.MethodName)) ∈ px_TB := px_TBi (List.mem_append_right _ (List.mem_of_getElem? (i := 447) (by decide +kernel))) rfl
theorem w_448 : (Jvm.Cond.selects "PortraitRule" ({ cls := "PortraitRule", name := "fever", desc := "(IIIII)J" } : Jvm.MethodName) ({ cls := "PortraitRule", name := "fever", desc := "(IIIII)J" } : Jvm.MethodName)) ∈ px_TB := px_TBi (List.mem_append_right _ (List.mem_of_getElem? (i := 448) (by decide +kernel))) rfl
theorem w_801 : (Jvm.Cond.methodLink "PortraitRuleLaw" (127 : Nat) ({ cls := "PortraitRuleModel", name := "fever", desc := "(IIIII)J" } : Jvm.MethodName)) ∈ px_TB := px_TBi (List.mem_append_right _ (List.mem_of_getElem? (i := 801) (by decide +kernel))) rfl
theorem w_802 : (Jvm.Cond.instanceMethod ({ cls := "PortraitRuleModel", name := "fever", desc := "(IIIII)J" } : Jvm.MethodName)) ∈ px_TB := px_TBi (List.mem_append_right _ (List.mem_of_getElem? (i := 802) (by decide +kernel))) rfl
theorem w_803 : (Jvm.Cond.selects "PortraitRuleModel" ({ cls := "PortraitRuleModel", name := "fever", desc := "(IIIII)J" } : Jvm.MethodName) ({ cls := "PortraitRuleModel", name := "fever", desc := "(IIIII)J" } : Jvm.MethodName)) ∈ px_TB := px_TBi (List.mem_append_right _ (List.mem_of_getElem? (i := 803) (by decide +kernel))) rfl
theorem w_476 : (Jvm.Cond.methodLink "PortraitRuleLaw" (128 : Nat) ({ cls := "PortraitRule", name := "year", desc := "(III)I" } : Jvm.MethodName)) ∈ px_TB := px_TBi (List.mem_append_right _ (List.mem_of_getElem? (i := 476) (by decide +kernel))) rfl
theorem w_477 : (Jvm.Cond.instanceMethod ({ cls := "PortraitRule", name := "year", desc := "(III)I" } : Jvm.MethodName)) ∈ px_TB := px_TBi (List.mem_append_right _ (List.mem_of_getElem? (i := 477) (by decide +kernel))) rfl
theorem w_478 : (Jvm.Cond.selects "PortraitRule" ({ cls := "PortraitRule", name := "year", desc := "(III)I" } : Jvm.MethodName) ({ cls := "PortraitRule", name := "year", desc := "(III)I" } : Jvm.MethodName)) ∈ px_TB := px_TBi (List.mem_append_right _ (List.mem_of_getElem? (i := 478) (by decide +kernel))) rfl
theorem w_808 : (Jvm.Cond.methodLink "PortraitRuleLaw" (131 : Nat) ({ cls := "PortraitRuleModel", name := "year", desc := "(III)I" } : Jvm.MethodName)) ∈ px_TB := px_TBi (List.mem_append_right _ (List.mem_of_getElem? (i := 808) (by decide +kernel))) rfl
theorem w_809 : (Jvm.Cond.instanceMethod ({ cls := "PortraitRuleModel", name := "year", desc := "(III)I" } : Jvm.MethodName)) ∈ px_TB := px_TBi (List.mem_append_right _ (List.mem_of_getElem? (i := 809) (by decide +kernel))) rfl
theorem w_810 : (Jvm.Cond.selects "PortraitRuleModel" ({ cls := "PortraitRuleModel", name := "year", desc := "(III)I" } : Jvm.MethodName) ({ cls := "PortraitRuleModel", name := "year", desc := "(III)I" } : Jvm.MethodName)) ∈ px_TB := px_TBi (List.mem_append_right _ (List.mem_of_getElem? (i := 810) (by decide +kernel))) rfl
theorem w_484 : (Jvm.Cond.methodLink "PortraitRuleLaw" (132 : Nat) ({ cls := "PortraitRule", name := "image", desc := "(I)I" } : Jvm.MethodName)) ∈ px_TB := px_TBi (List.mem_append_right _ (List.mem_of_getElem? (i := 484) (by decide +kernel))) rfl
theorem w_485 : (Jvm.Cond.instanceMethod ({ cls := "PortraitRule", name := "image", desc := "(I)I" } : Jvm.MethodName)) ∈ px_TB := px_TBi (List.mem_append_right _ (List.mem_of_getElem? (i := 485) (by decide +kernel))) rfl
theorem w_486 : (Jvm.Cond.selects "PortraitRule" ({ cls := "PortraitRule", name := "image", desc := "(I)I" } : Jvm.MethodName) ({ cls := "PortraitRule", name := "image", desc := "(I)I" } : Jvm.MethodName)) ∈ px_TB := px_TBi (List.mem_append_right _ (List.mem_of_getElem? (i := 486) (by decide +kernel))) rfl
theorem w_813 : (Jvm.Cond.methodLink "PortraitRuleLaw" (135 : Nat) ({ cls := "PortraitRuleModel", name := "image", desc := "(I)I" } : Jvm.MethodName)) ∈ px_TB := px_TBi (List.mem_append_right _ (List.mem_of_getElem? (i := 813) (by decide +kernel))) rfl
theorem w_814 : (Jvm.Cond.instanceMethod ({ cls := "PortraitRuleModel", name := "image", desc := "(I)I" } : Jvm.MethodName)) ∈ px_TB := px_TBi (List.mem_append_right _ (List.mem_of_getElem? (i := 814) (by decide +kernel))) rfl
theorem w_815 : (Jvm.Cond.selects "PortraitRuleModel" ({ cls := "PortraitRuleModel", name := "image", desc := "(I)I" } : Jvm.MethodName) ({ cls := "PortraitRuleModel", name := "image", desc := "(I)I" } : Jvm.MethodName)) ∈ px_TB := px_TBi (List.mem_append_right _ (List.mem_of_getElem? (i := 815) (by decide +kernel))) rfl
theorem w_488 : (Jvm.Cond.methodLink "PortraitRuleLaw" (136 : Nat) ({ cls := "PortraitRule", name := "restore", desc := "(I)I" } : Jvm.MethodName)) ∈ px_TB := px_TBi (List.mem_append_right _ (List.mem_of_getElem? (i := 488) (by decide +kernel))) rfl
theorem w_489 : (Jvm.Cond.instanceMethod ({ cls := "PortraitRule", name := "restore", desc := "(I)I" } : Jvm.MethodName)) ∈ px_TB := px_TBi (List.mem_append_right _ (List.mem_of_getElem? (i := 489) (by decide +kernel))) rfl
theorem w_490 : (Jvm.Cond.selects "PortraitRule" ({ cls := "PortraitRule", name := "restore", desc := "(I)I" } : Jvm.MethodName) ({ cls := "PortraitRule", name := "restore", desc := "(I)I" } : Jvm.MethodName)) ∈ px_TB := px_TBi (List.mem_append_right _ (List.mem_of_getElem? (i := 490) (by decide +kernel))) rfl
theorem w_817 : (Jvm.Cond.methodLink "PortraitRuleLaw" (139 : Nat) ({ cls := "PortraitRuleModel", name := "restore", desc := "(I)I" } : Jvm.MethodName)) ∈ px_TB := px_TBi (List.mem_append_right _ (List.mem_of_getElem? (i := 817) (by decide +kernel))) rfl
theorem w_818 : (Jvm.Cond.instanceMethod ({ cls := "PortraitRuleModel", name := "restore", desc := "(I)I" } : Jvm.MethodName)) ∈ px_TB := px_TBi (List.mem_append_right _ (List.mem_of_getElem? (i := 818) (by decide +kernel))) rfl
theorem w_819 : (Jvm.Cond.selects "PortraitRuleModel" ({ cls := "PortraitRuleModel", name := "restore", desc := "(I)I" } : Jvm.MethodName) ({ cls := "PortraitRuleModel", name := "restore", desc := "(I)I" } : Jvm.MethodName)) ∈ px_TB := px_TBi (List.mem_append_right _ (List.mem_of_getElem? (i := 819) (by decide +kernel))) rfl
theorem w_492 : (Jvm.Cond.methodLink "PortraitRuleLaw" (140 : Nat) ({ cls := "PortraitRule", name := "told", desc := "(I)I" } : Jvm.MethodName)) ∈ px_TB := px_TBi (List.mem_append_right _ (List.mem_of_getElem? (i := 492) (by decide +kernel))) rfl
theorem w_493 : (Jvm.Cond.instanceMethod ({ cls := "PortraitRule", name := "told", desc := "(I)I" } : Jvm.MethodName)) ∈ px_TB := px_TBi (List.mem_append_right _ (List.mem_of_getElem? (i := 493) (by decide +kernel))) rfl
theorem w_494 : (Jvm.Cond.selects "PortraitRule" ({ cls := "PortraitRule", name := "told", desc := "(I)I" } : Jvm.MethodName) ({ cls := "PortraitRule", name := "told", desc := "(I)I" } : Jvm.MethodName)) ∈ px_TB := px_TBi (List.mem_append_right _ (List.mem_of_getElem? (i := 494) (by decide +kernel))) rfl
theorem w_821 : (Jvm.Cond.methodLink "PortraitRuleLaw" (143 : Nat) ({ cls := "PortraitRuleModel", name := "told", desc := "(I)I" } : Jvm.MethodName)) ∈ px_TB := px_TBi (List.mem_append_right _ (List.mem_of_getElem? (i := 821) (by decide +kernel))) rfl
theorem w_822 : (Jvm.Cond.instanceMethod ({ cls := "PortraitRuleModel", name := "told", desc := "(I)I" } : Jvm.MethodName)) ∈ px_TB := px_TBi (List.mem_append_right _ (List.mem_of_getElem? (i := 822) (by decide +kernel))) rfl
theorem w_823 : (Jvm.Cond.selects "PortraitRuleModel" ({ cls := "PortraitRuleModel", name := "told", desc := "(I)I" } : Jvm.MethodName) ({ cls := "PortraitRuleModel", name := "told", desc := "(I)I" } : Jvm.MethodName)) ∈ px_TB := px_TBi (List.mem_append_right _ (List.mem_of_getElem? (i := 823) (by decide +kernel))) rfl
set_option maxRecDepth 20000 in
theorem w_83 : (Jvm.Cond.code ({ cls := "PortraitRule$Pad", name := "<init>", desc := "()V" } : Jvm.MethodName) prog_2_method_1_code (1 : Nat) (Option.none : Option Jvm.ClassFile.FieldType)) ∈ px_TB := px_TBi (List.mem_append_right _ (List.mem_of_getElem? (i := 83) rfl)) rfl
set_option maxRecDepth 20000 in
theorem w_157 : (Jvm.Cond.code ({ cls := "PortraitRule$Pad", name := "write", desc := "(I)V" } : Jvm.MethodName) prog_2_method_2_code (2 : Nat) (Option.none : Option Jvm.ClassFile.FieldType)) ∈ px_TB := px_TBi (List.mem_append_right _ (List.mem_of_getElem? (i := 157) rfl)) rfl
set_option maxRecDepth 20000 in
theorem w_173 : (Jvm.Cond.code ({ cls := "PortraitRule$Pad", name := "signAt", desc := "(I)I" } : Jvm.MethodName) prog_2_method_3_code (2 : Nat) (Option.some Jvm.ClassFile.FieldType.int)) ∈ px_TB := px_TBi (List.mem_append_right _ (List.mem_of_getElem? (i := 173) rfl)) rfl
set_option maxRecDepth 20000 in
theorem w_176 : (Jvm.Cond.code ({ cls := "PortraitRule$Pad", name := "kindOf", desc := "(I)I" } : Jvm.MethodName) prog_2_method_4_code (1 : Nat) (Option.some Jvm.ClassFile.FieldType.int)) ∈ px_TB := px_TBi (List.mem_append_right _ (List.mem_of_getElem? (i := 176) rfl)) rfl
set_option maxRecDepth 20000 in
theorem w_199 : (Jvm.Cond.code ({ cls := "PortraitRule$Pad", name := "numberOf", desc := "(I)I" } : Jvm.MethodName) prog_2_method_5_code (2 : Nat) (Option.some Jvm.ClassFile.FieldType.int)) ∈ px_TB := px_TBi (List.mem_append_right _ (List.mem_of_getElem? (i := 199) rfl)) rfl
set_option maxRecDepth 20000 in
theorem w_169 : (Jvm.Cond.code ({ cls := "PortraitRule$Pad", name := "firstFault", desc := "()I" } : Jvm.MethodName) prog_2_method_6_code (4 : Nat) (Option.some Jvm.ClassFile.FieldType.int)) ∈ px_TB := px_TBi (List.mem_append_right _ (List.mem_of_getElem? (i := 169) rfl)) rfl
set_option maxRecDepth 20000 in
theorem w_20 : (Jvm.Cond.code ({ cls := "PortraitRule$Realm", name := "<init>", desc := "()V" } : Jvm.MethodName) prog_3_method_1_code (2 : Nat) (Option.none : Option Jvm.ClassFile.FieldType)) ∈ px_TB := px_TBi (List.mem_append_right _ (List.mem_of_getElem? (i := 20) rfl)) rfl
set_option maxRecDepth 20000 in
theorem w_191 : (Jvm.Cond.code ({ cls := "PortraitRule$Realm", name := "copyFrom", desc := "(LPortraitRule$Realm;)V" } : Jvm.MethodName) prog_3_method_2_code (2 : Nat) (Option.none : Option Jvm.ClassFile.FieldType)) ∈ px_TB := px_TBi (List.mem_append_right _ (List.mem_of_getElem? (i := 191) rfl)) rfl
set_option maxRecDepth 20000 in
theorem w_215 : (Jvm.Cond.code ({ cls := "PortraitRule$Realm", name := "doneParts", desc := "()I" } : Jvm.MethodName) prog_3_method_3_code (3 : Nat) (Option.some Jvm.ClassFile.FieldType.int)) ∈ px_TB := px_TBi (List.mem_append_right _ (List.mem_of_getElem? (i := 215) rfl)) rfl
set_option maxRecDepth 20000 in
theorem w_339 : (Jvm.Cond.code ({ cls := "PortraitRule$Realm", name := "paintedParts", desc := "()I" } : Jvm.MethodName) prog_3_method_4_code (3 : Nat) (Option.some Jvm.ClassFile.FieldType.int)) ∈ px_TB := px_TBi (List.mem_append_right _ (List.mem_of_getElem? (i := 339) rfl)) rfl
set_option maxRecDepth 20000 in
theorem w_227 : (Jvm.Cond.code ({ cls := "PortraitRule$Realm", name := "powersOf", desc := "(I)I" } : Jvm.MethodName) prog_3_method_5_code (4 : Nat) (Option.some Jvm.ClassFile.FieldType.int)) ∈ px_TB := px_TBi (List.mem_append_right _ (List.mem_of_getElem? (i := 227) rfl)) rfl
set_option maxRecDepth 20000 in
theorem w_241 : (Jvm.Cond.code ({ cls := "PortraitRule$Realm", name := "actsWithin", desc := "(I)I" } : Jvm.MethodName) prog_3_method_6_code (4 : Nat) (Option.some Jvm.ClassFile.FieldType.int)) ∈ px_TB := px_TBi (List.mem_append_right _ (List.mem_of_getElem? (i := 241) rfl)) rfl
set_option maxRecDepth 20000 in
theorem w_323 : (Jvm.Cond.code ({ cls := "PortraitRule$Realm", name := "givesAll", desc := "(II)Z" } : Jvm.MethodName) prog_3_method_7_code (3 : Nat) (Option.some Jvm.ClassFile.FieldType.boolean)) ∈ px_TB := px_TBi (List.mem_append_right _ (List.mem_of_getElem? (i := 323) rfl)) rfl
set_option maxRecDepth 20000 in
theorem w_347 : (Jvm.Cond.code ({ cls := "PortraitRule$Realm", name := "partsThatGive", desc := "(I)I" } : Jvm.MethodName) prog_3_method_8_code (4 : Nat) (Option.some Jvm.ClassFile.FieldType.int)) ∈ px_TB := px_TBi (List.mem_append_right _ (List.mem_of_getElem? (i := 347) rfl)) rfl
set_option maxRecDepth 20000 in
theorem w_281 : (Jvm.Cond.code ({ cls := "PortraitRule$Realm", name := "isPicture", desc := "(I)Z" } : Jvm.MethodName) prog_3_method_9_code (3 : Nat) (Option.some Jvm.ClassFile.FieldType.boolean)) ∈ px_TB := px_TBi (List.mem_append_right _ (List.mem_of_getElem? (i := 281) rfl)) rfl
set_option maxRecDepth 20000 in
theorem w_311 : (Jvm.Cond.code ({ cls := "PortraitRule$Realm", name := "canFinish", desc := "(II)Z" } : Jvm.MethodName) prog_3_method_10_code (3 : Nat) (Option.some Jvm.ClassFile.FieldType.boolean)) ∈ px_TB := px_TBi (List.mem_append_right _ (List.mem_of_getElem? (i := 311) rfl)) rfl
set_option maxRecDepth 20000 in
theorem w_291 : (Jvm.Cond.code ({ cls := "PortraitRule$Realm", name := "hoursToPaint", desc := "(I)I" } : Jvm.MethodName) prog_3_method_11_code (4 : Nat) (Option.some Jvm.ClassFile.FieldType.int)) ∈ px_TB := px_TBi (List.mem_append_right _ (List.mem_of_getElem? (i := 291) rfl)) rfl
set_option maxRecDepth 20000 in
theorem w_137 : (Jvm.Cond.code ({ cls := "PortraitRule$Realm", name := "withAllAbove", desc := "(I)I" } : Jvm.MethodName) prog_3_method_12_code (2 : Nat) (Option.some Jvm.ClassFile.FieldType.int)) ∈ px_TB := px_TBi (List.mem_append_right _ (List.mem_of_getElem? (i := 137) rfl)) rfl
set_option maxRecDepth 20000 in
theorem w_141 : (Jvm.Cond.code ({ cls := "PortraitRule$Realm", name := "fallingWith", desc := "(I)I" } : Jvm.MethodName) prog_3_method_13_code (4 : Nat) (Option.some Jvm.ClassFile.FieldType.int)) ∈ px_TB := px_TBi (List.mem_append_right _ (List.mem_of_getElem? (i := 141) rfl)) rfl
set_option maxRecDepth 20000 in
theorem w_223 : (Jvm.Cond.code ({ cls := "PortraitRule$Realm", name := "powersThereAre", desc := "()I" } : Jvm.MethodName) prog_3_method_14_code (1 : Nat) (Option.some Jvm.ClassFile.FieldType.int)) ∈ px_TB := px_TBi (List.mem_append_right _ (List.mem_of_getElem? (i := 223) rfl)) rfl
set_option maxRecDepth 20000 in
theorem w_207 : (Jvm.Cond.code ({ cls := "PortraitRule$Realm", name := "whyNot", desc := "(II)I" } : Jvm.MethodName) prog_3_method_15_code (3 : Nat) (Option.some Jvm.ClassFile.FieldType.int)) ∈ px_TB := px_TBi (List.mem_append_right _ (List.mem_of_getElem? (i := 207) rfl)) rfl
set_option maxRecDepth 20000 in
theorem w_211 : (Jvm.Cond.code ({ cls := "PortraitRule$Realm", name := "whyNotPaint", desc := "(I)I" } : Jvm.MethodName) prog_3_method_16_code (3 : Nat) (Option.some Jvm.ClassFile.FieldType.int)) ∈ px_TB := px_TBi (List.mem_append_right _ (List.mem_of_getElem? (i := 211) rfl)) rfl
set_option maxRecDepth 20000 in
theorem w_219 : (Jvm.Cond.code ({ cls := "PortraitRule$Realm", name := "whyNotMake", desc := "(I)I" } : Jvm.MethodName) prog_3_method_17_code (2 : Nat) (Option.some Jvm.ClassFile.FieldType.int)) ∈ px_TB := px_TBi (List.mem_append_right _ (List.mem_of_getElem? (i := 219) rfl)) rfl
set_option maxRecDepth 20000 in
theorem w_203 : (Jvm.Cond.code ({ cls := "PortraitRule$Realm", name := "takeIfItCanBe", desc := "(II)I" } : Jvm.MethodName) prog_3_method_18_code (4 : Nat) (Option.some Jvm.ClassFile.FieldType.int)) ∈ px_TB := px_TBi (List.mem_append_right _ (List.mem_of_getElem? (i := 203) rfl)) rfl
set_option maxRecDepth 20000 in
theorem w_231 : (Jvm.Cond.code ({ cls := "PortraitRule$Realm", name := "paint", desc := "(I)V" } : Jvm.MethodName) prog_3_method_19_code (2 : Nat) (Option.none : Option Jvm.ClassFile.FieldType)) ∈ px_TB := px_TBi (List.mem_append_right _ (List.mem_of_getElem? (i := 231) rfl)) rfl
set_option maxRecDepth 20000 in
theorem w_145 : (Jvm.Cond.code ({ cls := "PortraitRule$Realm", name := "unpaint", desc := "(I)V" } : Jvm.MethodName) prog_3_method_20_code (3 : Nat) (Option.none : Option Jvm.ClassFile.FieldType)) ∈ px_TB := px_TBi (List.mem_append_right _ (List.mem_of_getElem? (i := 145) rfl)) rfl
set_option maxRecDepth 20000 in
theorem w_237 : (Jvm.Cond.code ({ cls := "PortraitRule$Realm", name := "repeal", desc := "()V" } : Jvm.MethodName) prog_3_method_21_code (2 : Nat) (Option.none : Option Jvm.ClassFile.FieldType)) ∈ px_TB := px_TBi (List.mem_append_right _ (List.mem_of_getElem? (i := 237) rfl)) rfl
set_option maxRecDepth 20000 in
theorem w_468 : (Jvm.Cond.code ({ cls := "PortraitRule$Realm", name := "paintLeast", desc := "()V" } : Jvm.MethodName) prog_3_method_22_code (3 : Nat) (Option.none : Option Jvm.ClassFile.FieldType)) ∈ px_TB := px_TBi (List.mem_append_right _ (List.mem_of_getElem? (i := 468) rfl)) rfl
set_option maxRecDepth 20000 in
theorem w_363 : (Jvm.Cond.code ({ cls := "PortraitRule$Realm", name := "addSight", desc := "(IIZ)V" } : Jvm.MethodName) prog_3_method_23_code (5 : Nat) (Option.none : Option Jvm.ClassFile.FieldType)) ∈ px_TB := px_TBi (List.mem_append_right _ (List.mem_of_getElem? (i := 363) rfl)) rfl
set_option maxRecDepth 20000 in
theorem w_379 : (Jvm.Cond.code ({ cls := "PortraitRule$Realm", name := "nextSightStep", desc := "(I)I" } : Jvm.MethodName) prog_3_method_24_code (4 : Nat) (Option.some Jvm.ClassFile.FieldType.int)) ∈ px_TB := px_TBi (List.mem_append_right _ (List.mem_of_getElem? (i := 379) rfl)) rfl
set_option maxRecDepth 20000 in
theorem w_391 : (Jvm.Cond.code ({ cls := "PortraitRule$Realm", name := "fitsSightsAt", desc := "(II)Z" } : Jvm.MethodName) prog_3_method_25_code (7 : Nat) (Option.some Jvm.ClassFile.FieldType.boolean)) ∈ px_TB := px_TBi (List.mem_append_right _ (List.mem_of_getElem? (i := 391) rfl)) rfl
set_option maxRecDepth 20000 in
theorem w_259 : (Jvm.Cond.code ({ cls := "PortraitRule$Realm", name := "tellState", desc := "(I)I" } : Jvm.MethodName) prog_3_method_26_code (2 : Nat) (Option.some Jvm.ClassFile.FieldType.int)) ∈ px_TB := px_TBi (List.mem_append_right _ (List.mem_of_getElem? (i := 259) rfl)) rfl
set_option maxRecDepth 20000 in
theorem w_499 : (Jvm.Cond.code ({ cls := "PortraitRule$Realm", name := "tellPart", desc := "(II)I" } : Jvm.MethodName) prog_3_method_27_code (3 : Nat) (Option.some Jvm.ClassFile.FieldType.int)) ∈ px_TB := px_TBi (List.mem_append_right _ (List.mem_of_getElem? (i := 499) rfl)) rfl
set_option maxRecDepth 20000 in
theorem w_12 : (Jvm.Cond.code ({ cls := "PortraitRule", name := "<init>", desc := "()V" } : Jvm.MethodName) prog_1_method_1_code (1 : Nat) (Option.none : Option Jvm.ClassFile.FieldType)) ∈ px_TB := px_TBi (List.mem_append_right _ (List.mem_of_getElem? (i := 12) rfl)) rfl
set_option maxRecDepth 20000 in
theorem w_127 : (Jvm.Cond.code ({ cls := "PortraitRule", name := "part", desc := "(IIII)I" } : Jvm.MethodName) prog_1_method_2_code (7 : Nat) (Option.some Jvm.ClassFile.FieldType.int)) ∈ px_TB := px_TBi (List.mem_append_right _ (List.mem_of_getElem? (i := 127) rfl)) rfl
set_option maxRecDepth 20000 in
theorem w_149 : (Jvm.Cond.code ({ cls := "PortraitRule", name := "needs", desc := "(II)I" } : Jvm.MethodName) prog_1_method_3_code (4 : Nat) (Option.some Jvm.ClassFile.FieldType.int)) ∈ px_TB := px_TBi (List.mem_append_right _ (List.mem_of_getElem? (i := 149) rfl)) rfl
set_option maxRecDepth 20000 in
theorem w_153 : (Jvm.Cond.code ({ cls := "PortraitRule", name := "say", desc := "(I)I" } : Jvm.MethodName) prog_1_method_4_code (2 : Nat) (Option.some Jvm.ClassFile.FieldType.int)) ∈ px_TB := px_TBi (List.mem_append_right _ (List.mem_of_getElem? (i := 153) rfl)) rfl
set_option maxRecDepth 20000 in
theorem w_161 : (Jvm.Cond.code ({ cls := "PortraitRule", name := "wipe", desc := "()I" } : Jvm.MethodName) prog_1_method_5_code (2 : Nat) (Option.some Jvm.ClassFile.FieldType.int)) ∈ px_TB := px_TBi (List.mem_append_right _ (List.mem_of_getElem? (i := 161) rfl)) rfl
set_option maxRecDepth 20000 in
theorem w_165 : (Jvm.Cond.code ({ cls := "PortraitRule", name := "fault", desc := "()I" } : Jvm.MethodName) prog_1_method_6_code (1 : Nat) (Option.some Jvm.ClassFile.FieldType.int)) ∈ px_TB := px_TBi (List.mem_append_right _ (List.mem_of_getElem? (i := 165) rfl)) rfl
set_option maxRecDepth 20000 in
theorem w_180 : (Jvm.Cond.code ({ cls := "PortraitRule", name := "judge", desc := "(I)I" } : Jvm.MethodName) prog_1_method_7_code (2 : Nat) (Option.some Jvm.ClassFile.FieldType.int)) ∈ px_TB := px_TBi (List.mem_append_right _ (List.mem_of_getElem? (i := 180) rfl)) rfl
set_option maxRecDepth 20000 in
theorem w_251 : (Jvm.Cond.code ({ cls := "PortraitRule", name := "done", desc := "()I" } : Jvm.MethodName) prog_1_method_8_code (1 : Nat) (Option.some Jvm.ClassFile.FieldType.int)) ∈ px_TB := px_TBi (List.mem_append_right _ (List.mem_of_getElem? (i := 251) rfl)) rfl
set_option maxRecDepth 20000 in
theorem w_255 : (Jvm.Cond.code ({ cls := "PortraitRule", name := "state", desc := "(I)I" } : Jvm.MethodName) prog_1_method_9_code (2 : Nat) (Option.some Jvm.ClassFile.FieldType.int)) ∈ px_TB := px_TBi (List.mem_append_right _ (List.mem_of_getElem? (i := 255) rfl)) rfl
set_option maxRecDepth 20000 in
theorem w_263 : (Jvm.Cond.code ({ cls := "PortraitRule", name := "behind", desc := "(I)I" } : Jvm.MethodName) prog_1_method_10_code (2 : Nat) (Option.some Jvm.ClassFile.FieldType.int)) ∈ px_TB := px_TBi (List.mem_append_right _ (List.mem_of_getElem? (i := 263) rfl)) rfl
set_option maxRecDepth 20000 in
theorem w_267 : (Jvm.Cond.code ({ cls := "PortraitRule", name := "can", desc := "()I" } : Jvm.MethodName) prog_1_method_11_code (3 : Nat) (Option.some Jvm.ClassFile.FieldType.int)) ∈ px_TB := px_TBi (List.mem_append_right _ (List.mem_of_getElem? (i := 267) rfl)) rfl
set_option maxRecDepth 20000 in
theorem w_272 : (Jvm.Cond.code ({ cls := "PortraitRule", name := "lacks", desc := "(II)I" } : Jvm.MethodName) prog_1_method_12_code (3 : Nat) (Option.some Jvm.ClassFile.FieldType.int)) ∈ px_TB := px_TBi (List.mem_append_right _ (List.mem_of_getElem? (i := 272) rfl)) rfl
set_option maxRecDepth 20000 in
theorem w_299 : (Jvm.Cond.code ({ cls := "PortraitRule", name := "plan", desc := "(III)I" } : Jvm.MethodName) prog_1_method_13_code (4 : Nat) (Option.some Jvm.ClassFile.FieldType.int)) ∈ px_TB := px_TBi (List.mem_append_right _ (List.mem_of_getElem? (i := 299) rfl)) rfl
set_option maxRecDepth 20000 in
theorem w_303 : (Jvm.Cond.code ({ cls := "PortraitRule", name := "orders", desc := "()I" } : Jvm.MethodName) prog_1_method_14_code (3 : Nat) (Option.some Jvm.ClassFile.FieldType.int)) ∈ px_TB := px_TBi (List.mem_append_right _ (List.mem_of_getElem? (i := 303) rfl)) rfl
set_option maxRecDepth 20000 in
theorem w_315 : (Jvm.Cond.code ({ cls := "PortraitRule", name := "bar", desc := "(II)I" } : Jvm.MethodName) prog_1_method_15_code (3 : Nat) (Option.some Jvm.ClassFile.FieldType.int)) ∈ px_TB := px_TBi (List.mem_append_right _ (List.mem_of_getElem? (i := 315) rfl)) rfl
set_option maxRecDepth 20000 in
theorem w_335 : (Jvm.Cond.code ({ cls := "PortraitRule", name := "falls", desc := "(II)I" } : Jvm.MethodName) prog_1_method_16_code (5 : Nat) (Option.some Jvm.ClassFile.FieldType.int)) ∈ px_TB := px_TBi (List.mem_append_right _ (List.mem_of_getElem? (i := 335) rfl)) rfl
set_option maxRecDepth 20000 in
theorem w_343 : (Jvm.Cond.code ({ cls := "PortraitRule", name := "alone", desc := "(I)I" } : Jvm.MethodName) prog_1_method_17_code (2 : Nat) (Option.some Jvm.ClassFile.FieldType.int)) ∈ px_TB := px_TBi (List.mem_append_right _ (List.mem_of_getElem? (i := 343) rfl)) rfl
set_option maxRecDepth 20000 in
theorem w_351 : (Jvm.Cond.code ({ cls := "PortraitRule", name := "guard", desc := "(II)I" } : Jvm.MethodName) prog_1_method_18_code (3 : Nat) (Option.some Jvm.ClassFile.FieldType.int)) ∈ px_TB := px_TBi (List.mem_append_right _ (List.mem_of_getElem? (i := 351) rfl)) rfl
set_option maxRecDepth 20000 in
theorem w_359 : (Jvm.Cond.code ({ cls := "PortraitRule", name := "seen", desc := "(IIZ)I" } : Jvm.MethodName) prog_1_method_19_code (4 : Nat) (Option.some Jvm.ClassFile.FieldType.int)) ∈ px_TB := px_TBi (List.mem_append_right _ (List.mem_of_getElem? (i := 359) rfl)) rfl
set_option maxRecDepth 20000 in
theorem w_367 : (Jvm.Cond.code ({ cls := "PortraitRule", name := "forget", desc := "()I" } : Jvm.MethodName) prog_1_method_20_code (2 : Nat) (Option.some Jvm.ClassFile.FieldType.int)) ∈ px_TB := px_TBi (List.mem_append_right _ (List.mem_of_getElem? (i := 367) rfl)) rfl
set_option maxRecDepth 20000 in
theorem w_371 : (Jvm.Cond.code ({ cls := "PortraitRule", name := "hidden", desc := "(I)I" } : Jvm.MethodName) prog_1_method_21_code (2 : Nat) (Option.some Jvm.ClassFile.FieldType.int)) ∈ px_TB := px_TBi (List.mem_append_right _ (List.mem_of_getElem? (i := 371) rfl)) rfl
set_option maxRecDepth 20000 in
theorem w_407 : (Jvm.Cond.code ({ cls := "PortraitRule", name := "tries", desc := "(I)I" } : Jvm.MethodName) prog_1_method_22_code (7 : Nat) (Option.some Jvm.ClassFile.FieldType.int)) ∈ px_TB := px_TBi (List.mem_append_right _ (List.mem_of_getElem? (i := 407) rfl)) rfl
set_option maxRecDepth 20000 in
theorem w_418 : (Jvm.Cond.code ({ cls := "PortraitRule", name := "send", desc := "(I)I" } : Jvm.MethodName) prog_1_method_23_code (3 : Nat) (Option.some Jvm.ClassFile.FieldType.int)) ∈ px_TB := px_TBi (List.mem_append_right _ (List.mem_of_getElem? (i := 418) rfl)) rfl
set_option maxRecDepth 20000 in
theorem w_425 : (Jvm.Cond.code ({ cls := "PortraitRule", name := "makes", desc := "(I)I" } : Jvm.MethodName) prog_1_method_24_code (2 : Nat) (Option.some Jvm.ClassFile.FieldType.int)) ∈ px_TB := px_TBi (List.mem_append_right _ (List.mem_of_getElem? (i := 425) rfl)) rfl
set_option maxRecDepth 20000 in
theorem w_429 : (Jvm.Cond.code ({ cls := "PortraitRule", name := "quarrel", desc := "(II)I" } : Jvm.MethodName) prog_1_method_25_code (3 : Nat) (Option.some Jvm.ClassFile.FieldType.int)) ∈ px_TB := px_TBi (List.mem_append_right _ (List.mem_of_getElem? (i := 429) rfl)) rfl
set_option maxRecDepth 20000 in
theorem w_433 : (Jvm.Cond.code ({ cls := "PortraitRule", name := "sent", desc := "()I" } : Jvm.MethodName) prog_1_method_26_code (5 : Nat) (Option.some Jvm.ClassFile.FieldType.int)) ∈ px_TB := px_TBi (List.mem_append_right _ (List.mem_of_getElem? (i := 433) rfl)) rfl
set_option maxRecDepth 20000 in
theorem w_437 : (Jvm.Cond.code ({ cls := "PortraitRule", name := "turns", desc := "(II)I" } : Jvm.MethodName) prog_1_method_27_code (5 : Nat) (Option.some Jvm.ClassFile.FieldType.int)) ∈ px_TB := px_TBi (List.mem_append_right _ (List.mem_of_getElem? (i := 437) rfl)) rfl
set_option maxRecDepth 20000 in
theorem w_449 : (Jvm.Cond.code ({ cls := "PortraitRule", name := "fever", desc := "(IIIII)J" } : Jvm.MethodName) prog_1_method_28_code (14 : Nat) (Option.some Jvm.ClassFile.FieldType.long)) ∈ px_TB := px_TBi (List.mem_append_right _ (List.mem_of_getElem? (i := 449) rfl)) rfl
set_option maxRecDepth 20000 in
theorem w_479 : (Jvm.Cond.code ({ cls := "PortraitRule", name := "year", desc := "(III)I" } : Jvm.MethodName) prog_1_method_29_code (7 : Nat) (Option.some Jvm.ClassFile.FieldType.int)) ∈ px_TB := px_TBi (List.mem_append_right _ (List.mem_of_getElem? (i := 479) rfl)) rfl
set_option maxRecDepth 20000 in
theorem w_487 : (Jvm.Cond.code ({ cls := "PortraitRule", name := "image", desc := "(I)I" } : Jvm.MethodName) prog_1_method_30_code (2 : Nat) (Option.some Jvm.ClassFile.FieldType.int)) ∈ px_TB := px_TBi (List.mem_append_right _ (List.mem_of_getElem? (i := 487) rfl)) rfl
set_option maxRecDepth 20000 in
theorem w_491 : (Jvm.Cond.code ({ cls := "PortraitRule", name := "restore", desc := "(I)I" } : Jvm.MethodName) prog_1_method_31_code (2 : Nat) (Option.some Jvm.ClassFile.FieldType.int)) ∈ px_TB := px_TBi (List.mem_append_right _ (List.mem_of_getElem? (i := 491) rfl)) rfl
set_option maxRecDepth 20000 in
theorem w_495 : (Jvm.Cond.code ({ cls := "PortraitRule", name := "told", desc := "(I)I" } : Jvm.MethodName) prog_1_method_32_code (2 : Nat) (Option.some Jvm.ClassFile.FieldType.int)) ∈ px_TB := px_TBi (List.mem_append_right _ (List.mem_of_getElem? (i := 495) rfl)) rfl
set_option maxRecDepth 20000 in
theorem w_130 : (Jvm.Cond.code ({ cls := "PortraitRule", name := "isOfEight", desc := "(I)Z" } : Jvm.MethodName) prog_1_method_33_code (1 : Nat) (Option.some Jvm.ClassFile.FieldType.boolean)) ∈ px_TB := px_TBi (List.mem_append_right _ (List.mem_of_getElem? (i := 130) rfl)) rfl
set_option maxRecDepth 20000 in
theorem w_133 : (Jvm.Cond.code ({ cls := "PortraitRule", name := "isSet", desc := "(I)Z" } : Jvm.MethodName) prog_1_method_34_code (1 : Nat) (Option.some Jvm.ClassFile.FieldType.boolean)) ∈ px_TB := px_TBi (List.mem_append_right _ (List.mem_of_getElem? (i := 133) rfl)) rfl
set_option maxRecDepth 20000 in
theorem w_183 : (Jvm.Cond.code ({ cls := "PortraitRule", name := "isEitherOne", desc := "(I)Z" } : Jvm.MethodName) prog_1_method_35_code (1 : Nat) (Option.some Jvm.ClassFile.FieldType.boolean)) ∈ px_TB := px_TBi (List.mem_append_right _ (List.mem_of_getElem? (i := 183) rfl)) rfl
set_option maxRecDepth 20000 in
theorem w_421 : (Jvm.Cond.code ({ cls := "PortraitRule", name := "isColony", desc := "(I)Z" } : Jvm.MethodName) prog_1_method_36_code (1 : Nat) (Option.some Jvm.ClassFile.FieldType.boolean)) ∈ px_TB := px_TBi (List.mem_append_right _ (List.mem_of_getElem? (i := 421) rfl)) rfl
set_option maxRecDepth 20000 in
theorem w_187 : (Jvm.Cond.code ({ cls := "PortraitRule", name := "tryReign", desc := "()V" } : Jvm.MethodName) prog_1_method_37_code (4 : Nat) (Option.none : Option Jvm.ClassFile.FieldType)) ∈ px_TB := px_TBi (List.mem_append_right _ (List.mem_of_getElem? (i := 187) rfl)) rfl
set_option maxRecDepth 20000 in
theorem w_483 : (Jvm.Cond.code ({ cls := "PortraitRule", name := "kindOfDraw", desc := "(I)I" } : Jvm.MethodName) prog_1_method_38_code (1 : Nat) (Option.some Jvm.ClassFile.FieldType.int)) ∈ px_TB := px_TBi (List.mem_append_right _ (List.mem_of_getElem? (i := 483) rfl)) rfl
set_option maxRecDepth 20000 in
theorem w_276 : (Jvm.Cond.code ({ cls := "PortraitRule", name := "cheapestPlan", desc := "(II)I" } : Jvm.MethodName) prog_1_method_39_code (8 : Nat) (Option.some Jvm.ClassFile.FieldType.int)) ∈ px_TB := px_TBi (List.mem_append_right _ (List.mem_of_getElem? (i := 276) rfl)) rfl
set_option maxRecDepth 20000 in
theorem w_285 : (Jvm.Cond.code ({ cls := "PortraitRule", name := "fitsPlan", desc := "(III)Z" } : Jvm.MethodName) prog_1_method_40_code (5 : Nat) (Option.some Jvm.ClassFile.FieldType.boolean)) ∈ px_TB := px_TBi (List.mem_append_right _ (List.mem_of_getElem? (i := 285) rfl)) rfl
set_option maxRecDepth 20000 in
theorem w_295 : (Jvm.Cond.code ({ cls := "PortraitRule", name := "tellPlan", desc := "(II)I" } : Jvm.MethodName) prog_1_method_41_code (3 : Nat) (Option.some Jvm.ClassFile.FieldType.int)) ∈ px_TB := px_TBi (List.mem_append_right _ (List.mem_of_getElem? (i := 295) rfl)) rfl
set_option maxRecDepth 20000 in
theorem w_319 : (Jvm.Cond.code ({ cls := "PortraitRule", name := "fewestToBar", desc := "(I)I" } : Jvm.MethodName) prog_1_method_42_code (5 : Nat) (Option.some Jvm.ClassFile.FieldType.int)) ∈ px_TB := px_TBi (List.mem_append_right _ (List.mem_of_getElem? (i := 319) rfl)) rfl
set_option maxRecDepth 20000 in
theorem w_355 : (Jvm.Cond.code ({ cls := "PortraitRule", name := "fewestToGuard", desc := "(I)I" } : Jvm.MethodName) prog_1_method_43_code (4 : Nat) (Option.some Jvm.ClassFile.FieldType.int)) ∈ px_TB := px_TBi (List.mem_append_right _ (List.mem_of_getElem? (i := 355) rfl)) rfl
set_option maxRecDepth 20000 in
theorem w_326 : (Jvm.Cond.code ({ cls := "PortraitRule", name := "isFewer", desc := "(II)Z" } : Jvm.MethodName) prog_1_method_44_code (2 : Nat) (Option.some Jvm.ClassFile.FieldType.boolean)) ∈ px_TB := px_TBi (List.mem_append_right _ (List.mem_of_getElem? (i := 326) rfl)) rfl
set_option maxRecDepth 20000 in
theorem w_331 : (Jvm.Cond.code ({ cls := "PortraitRule", name := "tellFewest", desc := "(II)I" } : Jvm.MethodName) prog_1_method_45_code (2 : Nat) (Option.some Jvm.ClassFile.FieldType.int)) ∈ px_TB := px_TBi (List.mem_append_right _ (List.mem_of_getElem? (i := 331) rfl)) rfl
set_option maxRecDepth 20000 in
theorem w_307 : (Jvm.Cond.code ({ cls := "PortraitRule", name := "clearBySet", desc := "()V" } : Jvm.MethodName) prog_1_method_46_code (2 : Nat) (Option.none : Option Jvm.ClassFile.FieldType)) ∈ px_TB := px_TBi (List.mem_append_right _ (List.mem_of_getElem? (i := 307) rfl)) rfl
set_option maxRecDepth 20000 in
theorem w_375 : (Jvm.Cond.code ({ cls := "PortraitRule", name := "findHidden", desc := "()V" } : Jvm.MethodName) prog_1_method_47_code (3 : Nat) (Option.none : Option Jvm.ClassFile.FieldType)) ∈ px_TB := px_TBi (List.mem_append_right _ (List.mem_of_getElem? (i := 375) rfl)) rfl
set_option maxRecDepth 20000 in
theorem w_383 : (Jvm.Cond.code ({ cls := "PortraitRule", name := "markAllWithMore", desc := "()V" } : Jvm.MethodName) prog_1_method_48_code (3 : Nat) (Option.none : Option Jvm.ClassFile.FieldType)) ∈ px_TB := px_TBi (List.mem_append_right _ (List.mem_of_getElem? (i := 383) rfl)) rfl
set_option maxRecDepth 20000 in
theorem w_387 : (Jvm.Cond.code ({ cls := "PortraitRule", name := "keepThoseSeenAt", desc := "(I)V" } : Jvm.MethodName) prog_1_method_49_code (3 : Nat) (Option.none : Option Jvm.ClassFile.FieldType)) ∈ px_TB := px_TBi (List.mem_append_right _ (List.mem_of_getElem? (i := 387) rfl)) rfl
set_option maxRecDepth 20000 in
theorem w_395 : (Jvm.Cond.code ({ cls := "PortraitRule", name := "countHidden", desc := "()I" } : Jvm.MethodName) prog_1_method_50_code (3 : Nat) (Option.some Jvm.ClassFile.FieldType.int)) ∈ px_TB := px_TBi (List.mem_append_right _ (List.mem_of_getElem? (i := 395) rfl)) rfl
set_option maxRecDepth 20000 in
theorem w_403 : (Jvm.Cond.code ({ cls := "PortraitRule", name := "partsInSomeHidden", desc := "()I" } : Jvm.MethodName) prog_1_method_51_code (3 : Nat) (Option.some Jvm.ClassFile.FieldType.int)) ∈ px_TB := px_TBi (List.mem_append_right _ (List.mem_of_getElem? (i := 403) rfl)) rfl
set_option maxRecDepth 20000 in
theorem w_399 : (Jvm.Cond.code ({ cls := "PortraitRule", name := "partsInAllHidden", desc := "()I" } : Jvm.MethodName) prog_1_method_52_code (3 : Nat) (Option.some Jvm.ClassFile.FieldType.int)) ∈ px_TB := px_TBi (List.mem_append_right _ (List.mem_of_getElem? (i := 399) rfl)) rfl
set_option maxRecDepth 20000 in
theorem w_411 : (Jvm.Cond.code ({ cls := "PortraitRule", name := "mostLeftBy", desc := "(II)I" } : Jvm.MethodName) prog_1_method_53_code (5 : Nat) (Option.some Jvm.ClassFile.FieldType.int)) ∈ px_TB := px_TBi (List.mem_append_right _ (List.mem_of_getElem? (i := 411) rfl)) rfl
set_option maxRecDepth 20000 in
theorem w_441 : (Jvm.Cond.code ({ cls := "PortraitRule", name := "findWinningParts", desc := "(I)V" } : Jvm.MethodName) prog_1_method_54_code (3 : Nat) (Option.none : Option Jvm.ClassFile.FieldType)) ∈ px_TB := px_TBi (List.mem_append_right _ (List.mem_of_getElem? (i := 441) rfl)) rfl
set_option maxRecDepth 20000 in
theorem w_445 : (Jvm.Cond.code ({ cls := "PortraitRule", name := "winningPart", desc := "(II)I" } : Jvm.MethodName) prog_1_method_55_code (5 : Nat) (Option.some Jvm.ClassFile.FieldType.int)) ∈ px_TB := px_TBi (List.mem_append_right _ (List.mem_of_getElem? (i := 445) rfl)) rfl
set_option maxRecDepth 20000 in
theorem w_455 : (Jvm.Cond.code ({ cls := "PortraitRule", name := "feverChances", desc := "(III)J" } : Jvm.MethodName) prog_1_method_56_code (7 : Nat) (Option.some Jvm.ClassFile.FieldType.long)) ∈ px_TB := px_TBi (List.mem_append_right _ (List.mem_of_getElem? (i := 455) rfl)) rfl
set_option maxRecDepth 20000 in
theorem w_472 : (Jvm.Cond.code ({ cls := "PortraitRule", name := "feverHours", desc := "(II)J" } : Jvm.MethodName) prog_1_method_57_code (6 : Nat) (Option.some Jvm.ClassFile.FieldType.long)) ∈ px_TB := px_TBi (List.mem_append_right _ (List.mem_of_getElem? (i := 472) rfl)) rfl
set_option maxRecDepth 20000 in
theorem w_458 : (Jvm.Cond.code ({ cls := "PortraitRule", name := "feverWeight", desc := "(III)J" } : Jvm.MethodName) prog_1_method_58_code (3 : Nat) (Option.some Jvm.ClassFile.FieldType.long)) ∈ px_TB := px_TBi (List.mem_append_right _ (List.mem_of_getElem? (i := 458) rfl)) rfl
set_option maxRecDepth 20000 in
theorem w_461 : (Jvm.Cond.code ({ cls := "PortraitRule", name := "choices", desc := "(II)J" } : Jvm.MethodName) prog_1_method_59_code (5 : Nat) (Option.some Jvm.ClassFile.FieldType.long)) ∈ px_TB := px_TBi (List.mem_append_right _ (List.mem_of_getElem? (i := 461) rfl)) rfl
set_option maxRecDepth 20000 in
theorem w_464 : (Jvm.Cond.code ({ cls := "PortraitRule", name := "power", desc := "(II)J" } : Jvm.MethodName) prog_1_method_60_code (5 : Nat) (Option.some Jvm.ClassFile.FieldType.long)) ∈ px_TB := px_TBi (List.mem_append_right _ (List.mem_of_getElem? (i := 464) rfl)) rfl
set_option maxRecDepth 20000 in
theorem w_475 : (Jvm.Cond.code ({ cls := "PortraitRule", name := "commonDivisor", desc := "(JJ)J" } : Jvm.MethodName) prog_1_method_61_code (11 : Nat) (Option.some Jvm.ClassFile.FieldType.long)) ∈ px_TB := px_TBi (List.mem_append_right _ (List.mem_of_getElem? (i := 475) rfl)) rfl
set_option maxRecDepth 20000 in
theorem w_504 : (Jvm.Cond.code ({ cls := "PortraitRuleModel", name := "<init>", desc := "()V" } : Jvm.MethodName) prog_5_method_1_code (2 : Nat) (Option.none : Option Jvm.ClassFile.FieldType)) ∈ px_TB := px_TBi (List.mem_append_right _ (List.mem_of_getElem? (i := 504) rfl)) rfl
set_option maxRecDepth 20000 in
theorem w_595 : (Jvm.Cond.code ({ cls := "PortraitRuleModel", name := "in", desc := "(III)Z" } : Jvm.MethodName) prog_5_method_2_code (3 : Nat) (Option.some Jvm.ClassFile.FieldType.boolean)) ∈ px_TB := px_TBi (List.mem_append_right _ (List.mem_of_getElem? (i := 595) rfl)) rfl
set_option maxRecDepth 20000 in
theorem w_602 : (Jvm.Cond.code ({ cls := "PortraitRuleModel", name := "has", desc := "(II)Z" } : Jvm.MethodName) prog_5_method_3_code (2 : Nat) (Option.some Jvm.ClassFile.FieldType.boolean)) ∈ px_TB := px_TBi (List.mem_append_right _ (List.mem_of_getElem? (i := 602) rfl)) rfl
set_option maxRecDepth 20000 in
theorem w_732 : (Jvm.Cond.code ({ cls := "PortraitRuleModel", name := "bits", desc := "(I)I" } : Jvm.MethodName) prog_5_method_4_code (3 : Nat) (Option.some Jvm.ClassFile.FieldType.int)) ∈ px_TB := px_TBi (List.mem_append_right _ (List.mem_of_getElem? (i := 732) rfl)) rfl
set_option maxRecDepth 20000 in
theorem w_592 : (Jvm.Cond.code ({ cls := "PortraitRuleModel", name := "isOne", desc := "(I)Z" } : Jvm.MethodName) prog_5_method_5_code (1 : Nat) (Option.some Jvm.ClassFile.FieldType.boolean)) ∈ px_TB := px_TBi (List.mem_append_right _ (List.mem_of_getElem? (i := 592) rfl)) rfl
set_option maxRecDepth 20000 in
theorem w_599 : (Jvm.Cond.code ({ cls := "PortraitRuleModel", name := "above", desc := "(I)I" } : Jvm.MethodName) prog_5_method_6_code (4 : Nat) (Option.some Jvm.ClassFile.FieldType.int)) ∈ px_TB := px_TBi (List.mem_append_right _ (List.mem_of_getElem? (i := 599) rfl)) rfl
set_option maxRecDepth 20000 in
theorem w_589 : (Jvm.Cond.code ({ cls := "PortraitRuleModel", name := "part", desc := "(IIII)I" } : Jvm.MethodName) prog_5_method_7_code (8 : Nat) (Option.some Jvm.ClassFile.FieldType.int)) ∈ px_TB := px_TBi (List.mem_append_right _ (List.mem_of_getElem? (i := 589) rfl)) rfl
set_option maxRecDepth 20000 in
theorem w_606 : (Jvm.Cond.code ({ cls := "PortraitRuleModel", name := "needs", desc := "(II)I" } : Jvm.MethodName) prog_5_method_8_code (4 : Nat) (Option.some Jvm.ClassFile.FieldType.int)) ∈ px_TB := px_TBi (List.mem_append_right _ (List.mem_of_getElem? (i := 606) rfl)) rfl
set_option maxRecDepth 20000 in
theorem w_610 : (Jvm.Cond.code ({ cls := "PortraitRuleModel", name := "say", desc := "(I)I" } : Jvm.MethodName) prog_5_method_9_code (2 : Nat) (Option.some Jvm.ClassFile.FieldType.int)) ∈ px_TB := px_TBi (List.mem_append_right _ (List.mem_of_getElem? (i := 610) rfl)) rfl
set_option maxRecDepth 20000 in
theorem w_614 : (Jvm.Cond.code ({ cls := "PortraitRuleModel", name := "wipe", desc := "()I" } : Jvm.MethodName) prog_5_method_10_code (2 : Nat) (Option.some Jvm.ClassFile.FieldType.int)) ∈ px_TB := px_TBi (List.mem_append_right _ (List.mem_of_getElem? (i := 614) rfl)) rfl
set_option maxRecDepth 20000 in
theorem w_625 : (Jvm.Cond.code ({ cls := "PortraitRuleModel", name := "isPart", desc := "(I)Z" } : Jvm.MethodName) prog_5_method_11_code (1 : Nat) (Option.some Jvm.ClassFile.FieldType.boolean)) ∈ px_TB := px_TBi (List.mem_append_right _ (List.mem_of_getElem? (i := 625) rfl)) rfl
set_option maxRecDepth 20000 in
theorem w_622 : (Jvm.Cond.code ({ cls := "PortraitRuleModel", name := "faultOf", desc := "()I" } : Jvm.MethodName) prog_5_method_12_code (5 : Nat) (Option.some Jvm.ClassFile.FieldType.int)) ∈ px_TB := px_TBi (List.mem_append_right _ (List.mem_of_getElem? (i := 622) rfl)) rfl
set_option maxRecDepth 20000 in
theorem w_618 : (Jvm.Cond.code ({ cls := "PortraitRuleModel", name := "fault", desc := "()I" } : Jvm.MethodName) prog_5_method_13_code (1 : Nat) (Option.some Jvm.ClassFile.FieldType.int)) ∈ px_TB := px_TBi (List.mem_append_right _ (List.mem_of_getElem? (i := 618) rfl)) rfl
set_option maxRecDepth 20000 in
theorem w_637 : (Jvm.Cond.code ({ cls := "PortraitRuleModel", name := "asNow", desc := "()V" } : Jvm.MethodName) prog_5_method_14_code (2 : Nat) (Option.none : Option Jvm.ClassFile.FieldType)) ∈ px_TB := px_TBi (List.mem_append_right _ (List.mem_of_getElem? (i := 637) rfl)) rfl
set_option maxRecDepth 20000 in
theorem w_649 : (Jvm.Cond.code ({ cls := "PortraitRuleModel", name := "doneNow", desc := "()I" } : Jvm.MethodName) prog_5_method_15_code (3 : Nat) (Option.some Jvm.ClassFile.FieldType.int)) ∈ px_TB := px_TBi (List.mem_append_right _ (List.mem_of_getElem? (i := 649) rfl)) rfl
set_option maxRecDepth 20000 in
theorem w_653 : (Jvm.Cond.code ({ cls := "PortraitRuleModel", name := "powers", desc := "(I)I" } : Jvm.MethodName) prog_5_method_16_code (4 : Nat) (Option.some Jvm.ClassFile.FieldType.int)) ∈ px_TB := px_TBi (List.mem_append_right _ (List.mem_of_getElem? (i := 653) rfl)) rfl
set_option maxRecDepth 20000 in
theorem w_713 : (Jvm.Cond.code ({ cls := "PortraitRuleModel", name := "givesAll", desc := "(II)Z" } : Jvm.MethodName) prog_5_method_17_code (3 : Nat) (Option.some Jvm.ClassFile.FieldType.boolean)) ∈ px_TB := px_TBi (List.mem_append_right _ (List.mem_of_getElem? (i := 713) rfl)) rfl
set_option maxRecDepth 20000 in
theorem w_645 : (Jvm.Cond.code ({ cls := "PortraitRuleModel", name := "powersNow", desc := "()I" } : Jvm.MethodName) prog_5_method_18_code (1 : Nat) (Option.some Jvm.ClassFile.FieldType.int)) ∈ px_TB := px_TBi (List.mem_append_right _ (List.mem_of_getElem? (i := 645) rfl)) rfl
set_option maxRecDepth 20000 in
theorem w_657 : (Jvm.Cond.code ({ cls := "PortraitRuleModel", name := "whyNoHour", desc := "(I)I" } : Jvm.MethodName) prog_5_method_19_code (2 : Nat) (Option.some Jvm.ClassFile.FieldType.int)) ∈ px_TB := px_TBi (List.mem_append_right _ (List.mem_of_getElem? (i := 657) rfl)) rfl
set_option maxRecDepth 20000 in
theorem w_661 : (Jvm.Cond.code ({ cls := "PortraitRuleModel", name := "paint", desc := "(I)V" } : Jvm.MethodName) prog_5_method_20_code (2 : Nat) (Option.none : Option Jvm.ClassFile.FieldType)) ∈ px_TB := px_TBi (List.mem_append_right _ (List.mem_of_getElem? (i := 661) rfl)) rfl
set_option maxRecDepth 20000 in
theorem w_641 : (Jvm.Cond.code ({ cls := "PortraitRuleModel", name := "over", desc := "(I)V" } : Jvm.MethodName) prog_5_method_21_code (4 : Nat) (Option.none : Option Jvm.ClassFile.FieldType)) ∈ px_TB := px_TBi (List.mem_append_right _ (List.mem_of_getElem? (i := 641) rfl)) rfl
set_option maxRecDepth 20000 in
theorem w_665 : (Jvm.Cond.code ({ cls := "PortraitRuleModel", name := "whyNoAct", desc := "(I)I" } : Jvm.MethodName) prog_5_method_22_code (2 : Nat) (Option.some Jvm.ClassFile.FieldType.int)) ∈ px_TB := px_TBi (List.mem_append_right _ (List.mem_of_getElem? (i := 665) rfl)) rfl
set_option maxRecDepth 20000 in
theorem w_669 : (Jvm.Cond.code ({ cls := "PortraitRuleModel", name := "make", desc := "(I)V" } : Jvm.MethodName) prog_5_method_23_code (2 : Nat) (Option.none : Option Jvm.ClassFile.FieldType)) ∈ px_TB := px_TBi (List.mem_append_right _ (List.mem_of_getElem? (i := 669) rfl)) rfl
set_option maxRecDepth 20000 in
theorem w_633 : (Jvm.Cond.code ({ cls := "PortraitRuleModel", name := "goReign", desc := "()I" } : Jvm.MethodName) prog_5_method_24_code (3 : Nat) (Option.some Jvm.ClassFile.FieldType.int)) ∈ px_TB := px_TBi (List.mem_append_right _ (List.mem_of_getElem? (i := 633) rfl)) rfl
set_option maxRecDepth 20000 in
theorem w_629 : (Jvm.Cond.code ({ cls := "PortraitRuleModel", name := "judge", desc := "(I)I" } : Jvm.MethodName) prog_5_method_25_code (3 : Nat) (Option.some Jvm.ClassFile.FieldType.int)) ∈ px_TB := px_TBi (List.mem_append_right _ (List.mem_of_getElem? (i := 629) rfl)) rfl
set_option maxRecDepth 20000 in
theorem w_677 : (Jvm.Cond.code ({ cls := "PortraitRuleModel", name := "barOfReign", desc := "()I" } : Jvm.MethodName) prog_5_method_26_code (1 : Nat) (Option.some Jvm.ClassFile.FieldType.int)) ∈ px_TB := px_TBi (List.mem_append_right _ (List.mem_of_getElem? (i := 677) rfl)) rfl
set_option maxRecDepth 20000 in
theorem w_673 : (Jvm.Cond.code ({ cls := "PortraitRuleModel", name := "done", desc := "()I" } : Jvm.MethodName) prog_5_method_27_code (2 : Nat) (Option.some Jvm.ClassFile.FieldType.int)) ∈ px_TB := px_TBi (List.mem_append_right _ (List.mem_of_getElem? (i := 673) rfl)) rfl
set_option maxRecDepth 20000 in
theorem w_685 : (Jvm.Cond.code ({ cls := "PortraitRuleModel", name := "stateNow", desc := "(I)I" } : Jvm.MethodName) prog_5_method_28_code (2 : Nat) (Option.some Jvm.ClassFile.FieldType.int)) ∈ px_TB := px_TBi (List.mem_append_right _ (List.mem_of_getElem? (i := 685) rfl)) rfl
set_option maxRecDepth 20000 in
theorem w_681 : (Jvm.Cond.code ({ cls := "PortraitRuleModel", name := "state", desc := "(I)I" } : Jvm.MethodName) prog_5_method_29_code (2 : Nat) (Option.some Jvm.ClassFile.FieldType.int)) ∈ px_TB := px_TBi (List.mem_append_right _ (List.mem_of_getElem? (i := 681) rfl)) rfl
set_option maxRecDepth 20000 in
theorem w_689 : (Jvm.Cond.code ({ cls := "PortraitRuleModel", name := "behind", desc := "(I)I" } : Jvm.MethodName) prog_5_method_30_code (2 : Nat) (Option.some Jvm.ClassFile.FieldType.int)) ∈ px_TB := px_TBi (List.mem_append_right _ (List.mem_of_getElem? (i := 689) rfl)) rfl
set_option maxRecDepth 20000 in
theorem w_693 : (Jvm.Cond.code ({ cls := "PortraitRuleModel", name := "can", desc := "()I" } : Jvm.MethodName) prog_5_method_31_code (3 : Nat) (Option.some Jvm.ClassFile.FieldType.int)) ∈ px_TB := px_TBi (List.mem_append_right _ (List.mem_of_getElem? (i := 693) rfl)) rfl
set_option maxRecDepth 20000 in
theorem w_705 : (Jvm.Cond.code ({ cls := "PortraitRuleModel", name := "isClosed", desc := "(I)Z" } : Jvm.MethodName) prog_5_method_32_code (4 : Nat) (Option.some Jvm.ClassFile.FieldType.boolean)) ∈ px_TB := px_TBi (List.mem_append_right _ (List.mem_of_getElem? (i := 705) rfl)) rfl
set_option maxRecDepth 20000 in
theorem w_709 : (Jvm.Cond.code ({ cls := "PortraitRuleModel", name := "costOf", desc := "(I)I" } : Jvm.MethodName) prog_5_method_33_code (4 : Nat) (Option.some Jvm.ClassFile.FieldType.int)) ∈ px_TB := px_TBi (List.mem_append_right _ (List.mem_of_getElem? (i := 709) rfl)) rfl
set_option maxRecDepth 20000 in
theorem w_701 : (Jvm.Cond.code ({ cls := "PortraitRuleModel", name := "cheapest", desc := "(II)I" } : Jvm.MethodName) prog_5_method_34_code (9 : Nat) (Option.some Jvm.ClassFile.FieldType.int)) ∈ px_TB := px_TBi (List.mem_append_right _ (List.mem_of_getElem? (i := 701) rfl)) rfl
set_option maxRecDepth 20000 in
theorem w_697 : (Jvm.Cond.code ({ cls := "PortraitRuleModel", name := "lacks", desc := "(II)I" } : Jvm.MethodName) prog_5_method_35_code (4 : Nat) (Option.some Jvm.ClassFile.FieldType.int)) ∈ px_TB := px_TBi (List.mem_append_right _ (List.mem_of_getElem? (i := 697) rfl)) rfl
set_option maxRecDepth 20000 in
theorem w_717 : (Jvm.Cond.code ({ cls := "PortraitRuleModel", name := "plan", desc := "(III)I" } : Jvm.MethodName) prog_5_method_36_code (5 : Nat) (Option.some Jvm.ClassFile.FieldType.int)) ∈ px_TB := px_TBi (List.mem_append_right _ (List.mem_of_getElem? (i := 717) rfl)) rfl
set_option maxRecDepth 20000 in
theorem w_721 : (Jvm.Cond.code ({ cls := "PortraitRuleModel", name := "orders", desc := "()I" } : Jvm.MethodName) prog_5_method_37_code (4 : Nat) (Option.some Jvm.ClassFile.FieldType.int)) ∈ px_TB := px_TBi (List.mem_append_right _ (List.mem_of_getElem? (i := 721) rfl)) rfl
set_option maxRecDepth 20000 in
theorem w_729 : (Jvm.Cond.code ({ cls := "PortraitRuleModel", name := "begun", desc := "()I" } : Jvm.MethodName) prog_5_method_38_code (3 : Nat) (Option.some Jvm.ClassFile.FieldType.int)) ∈ px_TB := px_TBi (List.mem_append_right _ (List.mem_of_getElem? (i := 729) rfl)) rfl
set_option maxRecDepth 20000 in
theorem w_725 : (Jvm.Cond.code ({ cls := "PortraitRuleModel", name := "bar", desc := "(II)I" } : Jvm.MethodName) prog_5_method_39_code (7 : Nat) (Option.some Jvm.ClassFile.FieldType.int)) ∈ px_TB := px_TBi (List.mem_append_right _ (List.mem_of_getElem? (i := 725) rfl)) rfl
set_option maxRecDepth 20000 in
theorem w_736 : (Jvm.Cond.code ({ cls := "PortraitRuleModel", name := "falls", desc := "(II)I" } : Jvm.MethodName) prog_5_method_40_code (4 : Nat) (Option.some Jvm.ClassFile.FieldType.int)) ∈ px_TB := px_TBi (List.mem_append_right _ (List.mem_of_getElem? (i := 736) rfl)) rfl
set_option maxRecDepth 20000 in
theorem w_744 : (Jvm.Cond.code ({ cls := "PortraitRuleModel", name := "aloneFor", desc := "(I)I" } : Jvm.MethodName) prog_5_method_41_code (4 : Nat) (Option.some Jvm.ClassFile.FieldType.int)) ∈ px_TB := px_TBi (List.mem_append_right _ (List.mem_of_getElem? (i := 744) rfl)) rfl
set_option maxRecDepth 20000 in
theorem w_740 : (Jvm.Cond.code ({ cls := "PortraitRuleModel", name := "alone", desc := "(I)I" } : Jvm.MethodName) prog_5_method_42_code (2 : Nat) (Option.some Jvm.ClassFile.FieldType.int)) ∈ px_TB := px_TBi (List.mem_append_right _ (List.mem_of_getElem? (i := 740) rfl)) rfl
set_option maxRecDepth 20000 in
theorem w_748 : (Jvm.Cond.code ({ cls := "PortraitRuleModel", name := "guard", desc := "(II)I" } : Jvm.MethodName) prog_5_method_43_code (6 : Nat) (Option.some Jvm.ClassFile.FieldType.int)) ∈ px_TB := px_TBi (List.mem_append_right _ (List.mem_of_getElem? (i := 748) rfl)) rfl
set_option maxRecDepth 20000 in
theorem w_752 : (Jvm.Cond.code ({ cls := "PortraitRuleModel", name := "seen", desc := "(IIZ)I" } : Jvm.MethodName) prog_5_method_44_code (4 : Nat) (Option.some Jvm.ClassFile.FieldType.int)) ∈ px_TB := px_TBi (List.mem_append_right _ (List.mem_of_getElem? (i := 752) rfl)) rfl
set_option maxRecDepth 20000 in
theorem w_756 : (Jvm.Cond.code ({ cls := "PortraitRuleModel", name := "forget", desc := "()I" } : Jvm.MethodName) prog_5_method_45_code (2 : Nat) (Option.some Jvm.ClassFile.FieldType.int)) ∈ px_TB := px_TBi (List.mem_append_right _ (List.mem_of_getElem? (i := 756) rfl)) rfl
set_option maxRecDepth 20000 in
theorem w_764 : (Jvm.Cond.code ({ cls := "PortraitRuleModel", name := "layHidden", desc := "()V" } : Jvm.MethodName) prog_5_method_46_code (4 : Nat) (Option.none : Option Jvm.ClassFile.FieldType)) ∈ px_TB := px_TBi (List.mem_append_right _ (List.mem_of_getElem? (i := 764) rfl)) rfl
set_option maxRecDepth 20000 in
theorem w_768 : (Jvm.Cond.code ({ cls := "PortraitRuleModel", name := "layStep", desc := "(I)V" } : Jvm.MethodName) prog_5_method_47_code (6 : Nat) (Option.none : Option Jvm.ClassFile.FieldType)) ∈ px_TB := px_TBi (List.mem_append_right _ (List.mem_of_getElem? (i := 768) rfl)) rfl
set_option maxRecDepth 20000 in
theorem w_760 : (Jvm.Cond.code ({ cls := "PortraitRuleModel", name := "hidden", desc := "(I)I" } : Jvm.MethodName) prog_5_method_48_code (6 : Nat) (Option.some Jvm.ClassFile.FieldType.int)) ∈ px_TB := px_TBi (List.mem_append_right _ (List.mem_of_getElem? (i := 760) rfl)) rfl
set_option maxRecDepth 20000 in
theorem w_772 : (Jvm.Cond.code ({ cls := "PortraitRuleModel", name := "tries", desc := "(I)I" } : Jvm.MethodName) prog_5_method_49_code (9 : Nat) (Option.some Jvm.ClassFile.FieldType.int)) ∈ px_TB := px_TBi (List.mem_append_right _ (List.mem_of_getElem? (i := 772) rfl)) rfl
set_option maxRecDepth 20000 in
theorem w_780 : (Jvm.Cond.code ({ cls := "PortraitRuleModel", name := "isColony", desc := "(I)Z" } : Jvm.MethodName) prog_5_method_50_code (1 : Nat) (Option.some Jvm.ClassFile.FieldType.boolean)) ∈ px_TB := px_TBi (List.mem_append_right _ (List.mem_of_getElem? (i := 780) rfl)) rfl
set_option maxRecDepth 20000 in
theorem w_777 : (Jvm.Cond.code ({ cls := "PortraitRuleModel", name := "send", desc := "(I)I" } : Jvm.MethodName) prog_5_method_51_code (2 : Nat) (Option.some Jvm.ClassFile.FieldType.int)) ∈ px_TB := px_TBi (List.mem_append_right _ (List.mem_of_getElem? (i := 777) rfl)) rfl
set_option maxRecDepth 20000 in
theorem w_788 : (Jvm.Cond.code ({ cls := "PortraitRuleModel", name := "madeBy", desc := "(I)I" } : Jvm.MethodName) prog_5_method_52_code (4 : Nat) (Option.some Jvm.ClassFile.FieldType.int)) ∈ px_TB := px_TBi (List.mem_append_right _ (List.mem_of_getElem? (i := 788) rfl)) rfl
set_option maxRecDepth 20000 in
theorem w_784 : (Jvm.Cond.code ({ cls := "PortraitRuleModel", name := "makes", desc := "(I)I" } : Jvm.MethodName) prog_5_method_53_code (2 : Nat) (Option.some Jvm.ClassFile.FieldType.int)) ∈ px_TB := px_TBi (List.mem_append_right _ (List.mem_of_getElem? (i := 784) rfl)) rfl
set_option maxRecDepth 20000 in
theorem w_792 : (Jvm.Cond.code ({ cls := "PortraitRuleModel", name := "quarrel", desc := "(II)I" } : Jvm.MethodName) prog_5_method_54_code (3 : Nat) (Option.some Jvm.ClassFile.FieldType.int)) ∈ px_TB := px_TBi (List.mem_append_right _ (List.mem_of_getElem? (i := 792) rfl)) rfl
set_option maxRecDepth 20000 in
theorem w_796 : (Jvm.Cond.code ({ cls := "PortraitRuleModel", name := "sent", desc := "()I" } : Jvm.MethodName) prog_5_method_55_code (5 : Nat) (Option.some Jvm.ClassFile.FieldType.int)) ∈ px_TB := px_TBi (List.mem_append_right _ (List.mem_of_getElem? (i := 796) rfl)) rfl
set_option maxRecDepth 20000 in
theorem w_800 : (Jvm.Cond.code ({ cls := "PortraitRuleModel", name := "turns", desc := "(II)I" } : Jvm.MethodName) prog_5_method_56_code (10 : Nat) (Option.some Jvm.ClassFile.FieldType.int)) ∈ px_TB := px_TBi (List.mem_append_right _ (List.mem_of_getElem? (i := 800) rfl)) rfl
set_option maxRecDepth 20000 in
theorem w_804 : (Jvm.Cond.code ({ cls := "PortraitRuleModel", name := "fever", desc := "(IIIII)J" } : Jvm.MethodName) prog_5_method_57_code (16 : Nat) (Option.some Jvm.ClassFile.FieldType.long)) ∈ px_TB := px_TBi (List.mem_append_right _ (List.mem_of_getElem? (i := 804) rfl)) rfl
set_option maxRecDepth 20000 in
theorem w_811 : (Jvm.Cond.code ({ cls := "PortraitRuleModel", name := "year", desc := "(III)I" } : Jvm.MethodName) prog_5_method_58_code (8 : Nat) (Option.some Jvm.ClassFile.FieldType.int)) ∈ px_TB := px_TBi (List.mem_append_right _ (List.mem_of_getElem? (i := 811) rfl)) rfl
set_option maxRecDepth 20000 in
theorem w_816 : (Jvm.Cond.code ({ cls := "PortraitRuleModel", name := "image", desc := "(I)I" } : Jvm.MethodName) prog_5_method_59_code (4 : Nat) (Option.some Jvm.ClassFile.FieldType.int)) ∈ px_TB := px_TBi (List.mem_append_right _ (List.mem_of_getElem? (i := 816) rfl)) rfl
set_option maxRecDepth 20000 in
theorem w_820 : (Jvm.Cond.code ({ cls := "PortraitRuleModel", name := "restore", desc := "(I)I" } : Jvm.MethodName) prog_5_method_60_code (4 : Nat) (Option.some Jvm.ClassFile.FieldType.int)) ∈ px_TB := px_TBi (List.mem_append_right _ (List.mem_of_getElem? (i := 820) rfl)) rfl
set_option maxRecDepth 20000 in
theorem w_824 : (Jvm.Cond.code ({ cls := "PortraitRuleModel", name := "told", desc := "(I)I" } : Jvm.MethodName) prog_5_method_61_code (3 : Nat) (Option.some Jvm.ClassFile.FieldType.int)) ∈ px_TB := px_TBi (List.mem_append_right _ (List.mem_of_getElem? (i := 824) rfl)) rfl
set_option maxRecDepth 20000 in
theorem w_244 : (Jvm.Cond.code ({ cls := "java/lang/Integer", name := "bitCount", desc := "(I)I" } : Jvm.MethodName) prog_6_method_49_code (1 : Nat) (Option.some Jvm.ClassFile.FieldType.int)) ∈ px_TB := px_TBi (List.mem_append_right _ (List.mem_of_getElem? (i := 244) rfl)) rfl
theorem w_6 : (Jvm.Cond.initialized "java/lang/Integer") ∈ px_TB := px_TBi (List.mem_append_right _ (List.mem_of_getElem? (i := 6) (by decide +kernel))) rfl
def px_K0 : List (Nat × Nat × Value × Nat × Nat) := [(4, 3, .null, 1000, 1), (0, 9, .null, 0, 0), (0, 15, .int 0, 0, 1), (3, 19, .null, 3, 1), (2, 23, .ref 0, 2, 2)]
theorem kk_0_0 : px_okK px_T 0 (4, 3, .null, 1000, 1) := by
  exact ⟨w_84, w_14, w_15⟩
theorem kk_0_1 : px_okK px_T 0 (0, 9, .null, 0, 0) := by
  exact ⟨by decide, by decide, Or.inl w_85, Or.inl ⟨rfl, rfl⟩⟩
theorem kk_0_2 : px_okK px_T 0 (0, 15, .int 0, 0, 1) := by
  exact ⟨by decide, by decide, Or.inl w_86, Or.inr (Or.inl ⟨rfl, rfl⟩)⟩
theorem kk_0_3 : px_okK px_T 0 (3, 19, .null, 3, 1) := by
  exact ⟨mX0_kindOf, rfl, np_X0_kindOf, w_175, (Or.inl w_174)⟩
theorem kk_0_4 : px_okK px_T 0 (2, 23, .ref 0, 2, 2) := by
  exact ⟨mX0_signAt, rfl, rfl, by decide, by decide, np_X0_signAt, w_172, ws_5, (Or.inl w_170)⟩
theorem kl_0 : ∀ q ∈ px_K0, px_okK px_T 0 q := by
  intro q hq
  simp only [px_K0, List.mem_cons, List.not_mem_nil, or_false] at hq
  rcases hq with rfl | rfl | rfl | rfl | rfl
  · exact kk_0_0
  · exact kk_0_1
  · exact kk_0_2
  · exact kk_0_3
  · exact kk_0_4
def px_K1 : List (Nat × Nat × Value × Nat × Nat) := [(4, 3, .null, 1000, 1), (0, 9, .null, 1, 0), (0, 15, .null, 1, 1), (0, 18, .null, 1, 2), (0, 21, .null, 1, 3), (0, 24, .null, 1, 4), (0, 27, .null, 1, 5), (0, 30, .null, 1, 6), (0, 33, .null, 1, 7), (3, 36, .null, 1001, 5), (0, 42, .int 0, 1, 8), (0, 46, .int 1, 1, 9), (0, 50, .int 0, 1, 10), (0, 53, .int 0, 1, 11), (0, 56, .int 0, 1, 12), (0, 59, .int 0, 1, 13), (0, 62, .int 0, 1, 14), (2, 65, .ref 1, 10, 2), (2, 69, .ref 1, 18, 2), (2, 72, .ref 1, 8, 1), (2, 76, .ref 1, 21, 2), (2, 79, .ref 1, 22, 2), (2, 82, .ref 1, 19, 1), (2, 85, .ref 1, 20, 3), (2, 89, .ref 1, 24, 2), (2, 93, .ref 1, 17, 2), (2, 96, .ref 1, 25, 2), (2, 99, .ref 1, 26, 1), (2, 102, .ref 1, 11, 2), (3, 105, .null, 155, 1)]
theorem kk_1_0 : px_okK px_T 1 (4, 3, .null, 1000, 1) := by
  exact ⟨w_21, w_14, w_15⟩
theorem kk_1_1 : px_okK px_T 1 (0, 9, .null, 1, 0) := by
  exact ⟨by decide, by decide, Or.inl w_22, Or.inl ⟨rfl, rfl⟩⟩
theorem kk_1_2 : px_okK px_T 1 (0, 15, .null, 1, 1) := by
  exact ⟨by decide, by decide, Or.inl w_24, Or.inl ⟨rfl, rfl⟩⟩
theorem kk_1_3 : px_okK px_T 1 (0, 18, .null, 1, 2) := by
  exact ⟨by decide, by decide, Or.inl w_26, Or.inl ⟨rfl, rfl⟩⟩
theorem kk_1_4 : px_okK px_T 1 (0, 21, .null, 1, 3) := by
  exact ⟨by decide, by decide, Or.inl w_28, Or.inl ⟨rfl, rfl⟩⟩
theorem kk_1_5 : px_okK px_T 1 (0, 24, .null, 1, 4) := by
  exact ⟨by decide, by decide, Or.inl w_29, Or.inl ⟨rfl, rfl⟩⟩
theorem kk_1_6 : px_okK px_T 1 (0, 27, .null, 1, 5) := by
  exact ⟨by decide, by decide, Or.inl w_31, Or.inl ⟨rfl, rfl⟩⟩
theorem kk_1_7 : px_okK px_T 1 (0, 30, .null, 1, 6) := by
  exact ⟨by decide, by decide, Or.inl w_32, Or.inl ⟨rfl, rfl⟩⟩
theorem kk_1_8 : px_okK px_T 1 (0, 33, .null, 1, 7) := by
  exact ⟨by decide, by decide, Or.inl w_33, Or.inl ⟨rfl, rfl⟩⟩
theorem kk_1_9 : px_okK px_T 1 (3, 36, .null, 1001, 5) := by
  exact ⟨w_192, w_194, w_193, w_5⟩
theorem kk_1_10 : px_okK px_T 1 (0, 42, .int 0, 1, 8) := by
  exact ⟨by decide, by decide, Or.inl w_35, Or.inr (Or.inl ⟨rfl, rfl⟩)⟩
theorem kk_1_11 : px_okK px_T 1 (0, 46, .int 1, 1, 9) := by
  exact ⟨by decide, by decide, Or.inl w_37, Or.inr (Or.inr ⟨rfl, rfl⟩)⟩
theorem kk_1_12 : px_okK px_T 1 (0, 50, .int 0, 1, 10) := by
  exact ⟨by decide, by decide, Or.inl w_38, Or.inr (Or.inl ⟨rfl, rfl⟩)⟩
theorem kk_1_13 : px_okK px_T 1 (0, 53, .int 0, 1, 11) := by
  exact ⟨by decide, by decide, Or.inl w_40, Or.inr (Or.inl ⟨rfl, rfl⟩)⟩
theorem kk_1_14 : px_okK px_T 1 (0, 56, .int 0, 1, 12) := by
  exact ⟨by decide, by decide, Or.inl w_41, Or.inr (Or.inl ⟨rfl, rfl⟩)⟩
theorem kk_1_15 : px_okK px_T 1 (0, 59, .int 0, 1, 13) := by
  exact ⟨by decide, by decide, Or.inl w_43, Or.inr (Or.inl ⟨rfl, rfl⟩)⟩
theorem kk_1_16 : px_okK px_T 1 (0, 62, .int 0, 1, 14) := by
  exact ⟨by decide, by decide, Or.inl w_45, Or.inr (Or.inl ⟨rfl, rfl⟩)⟩
theorem kk_1_17 : px_okK px_T 1 (2, 65, .ref 1, 10, 2) := by
  exact ⟨mX1_powersOf, rfl, rfl, by decide, by decide, np_X1_powersOf, w_226, ws_14, (Or.inl w_224)⟩
theorem kk_1_18 : px_okK px_T 1 (2, 69, .ref 1, 18, 2) := by
  exact ⟨mX1_fallingWith, rfl, rfl, by decide, by decide, np_X1_fallingWith, w_140, ws_1, (Or.inl w_138)⟩
theorem kk_1_19 : px_okK px_T 1 (2, 72, .ref 1, 8, 1) := by
  exact ⟨mX1_doneParts, rfl, rfl, by decide, by decide, np_X1_doneParts, w_214, ws_11, (Or.inl w_212)⟩
theorem kk_1_20 : px_okK px_T 1 (2, 76, .ref 1, 21, 2) := by
  exact ⟨mX1_whyNotPaint, rfl, rfl, by decide, by decide, np_X1_whyNotPaint, w_210, ws_10, (Or.inl w_208)⟩
theorem kk_1_21 : px_okK px_T 1 (2, 79, .ref 1, 22, 2) := by
  exact ⟨mX1_whyNotMake, rfl, rfl, by decide, by decide, np_X1_whyNotMake, w_218, ws_12, (Or.inl w_216)⟩
theorem kk_1_22 : px_okK px_T 1 (2, 82, .ref 1, 19, 1) := by
  exact ⟨mX1_powersThereAre, rfl, rfl, by decide, by decide, np_X1_powersThereAre, w_222, ws_13, (Or.inl w_220)⟩
theorem kk_1_23 : px_okK px_T 1 (2, 85, .ref 1, 20, 3) := by
  exact ⟨mX1_whyNot, rfl, rfl, by decide, by decide, np_X1_whyNot, w_206, ws_9, (Or.inl w_204)⟩
theorem kk_1_24 : px_okK px_T 1 (2, 89, .ref 1, 24, 2) := by
  exact ⟨mX1_paint, rfl, rfl, by decide, by decide, np_X1_paint, w_230, ws_15, (Or.inl w_228)⟩
theorem kk_1_25 : px_okK px_T 1 (2, 93, .ref 1, 17, 2) := by
  exact ⟨mX1_withAllAbove, rfl, rfl, by decide, by decide, np_X1_withAllAbove, w_136, ws_0, (Or.inl w_232)⟩
theorem kk_1_26 : px_okK px_T 1 (2, 96, .ref 1, 25, 2) := by
  exact ⟨mX1_unpaint, rfl, rfl, by decide, by decide, np_X1_unpaint, w_144, ws_2, (Or.inl w_233)⟩
theorem kk_1_27 : px_okK px_T 1 (2, 99, .ref 1, 26, 1) := by
  exact ⟨mX1_repeal, rfl, rfl, by decide, by decide, np_X1_repeal, w_236, ws_16, (Or.inl w_234)⟩
theorem kk_1_28 : px_okK px_T 1 (2, 102, .ref 1, 11, 2) := by
  exact ⟨mX1_actsWithin, rfl, rfl, by decide, by decide, np_X1_actsWithin, w_240, ws_17, (Or.inl w_238)⟩
theorem kk_1_29 : px_okK px_T 1 (3, 105, .null, 155, 1) := by
  exact ⟨mJ6_bitCount_0f7a4, rfl, np_J6_bitCount_0f7a4, w_243, (Or.inl w_242)⟩
theorem kl_1 : ∀ q ∈ px_K1, px_okK px_T 1 q := by
  intro q hq
  simp only [px_K1, List.mem_cons, List.not_mem_nil, or_false] at hq
  rcases hq with rfl | rfl | rfl | rfl | rfl | rfl | rfl | rfl | rfl | rfl | rfl | rfl | rfl | rfl | rfl | rfl | rfl | rfl | rfl | rfl | rfl | rfl | rfl | rfl | rfl | rfl | rfl | rfl | rfl | rfl
  · exact kk_1_0
  · exact kk_1_1
  · exact kk_1_2
  · exact kk_1_3
  · exact kk_1_4
  · exact kk_1_5
  · exact kk_1_6
  · exact kk_1_7
  · exact kk_1_8
  · exact kk_1_9
  · exact kk_1_10
  · exact kk_1_11
  · exact kk_1_12
  · exact kk_1_13
  · exact kk_1_14
  · exact kk_1_15
  · exact kk_1_16
  · exact kk_1_17
  · exact kk_1_18
  · exact kk_1_19
  · exact kk_1_20
  · exact kk_1_21
  · exact kk_1_22
  · exact kk_1_23
  · exact kk_1_24
  · exact kk_1_25
  · exact kk_1_26
  · exact kk_1_27
  · exact kk_1_28
  · exact kk_1_29
def px_K2 : List (Nat × Nat × Value × Nat × Nat) := [(4, 1, .null, 1000, 1), (1, 7, .null, 1, 0), (4, 9, .null, 6, 1), (0, 10, .null, 2, 0), (0, 16, .null, 2, 1), (0, 19, .null, 2, 2), (0, 22, .null, 2, 3), (1, 25, .null, 0, 0), (4, 27, .null, 0, 1), (0, 28, .null, 2, 4), (0, 32, .null, 2, 5), (3, 36, .null, 65, 1), (3, 40, .null, 66, 1), (0, 43, .null, 1, 0), (2, 46, .ref 1, 17, 2), (2, 50, .ref 1, 25, 2), (0, 54, .null, 1, 1), (0, 57, .null, 1, 2), (0, 60, .null, 1, 4), (0, 63, .int 0, 1, 8), (0, 67, .int 0, 0, 1), (2, 70, .ref 0, 1, 2), (2, 73, .ref 0, 5, 1), (3, 77, .null, 67, 1), (2, 80, .ref 2, 69, 1), (0, 83, .int 0, 2, 8), (0, 86, .int 0, 2, 9), (2, 89, .ref 1, 7, 2), (2, 93, .ref 1, 31, 2), (0, 96, .int 0, 1, 12), (0, 99, .int 0, 1, 14), (2, 102, .ref 1, 20, 3), (2, 106, .ref 2, 71, 3), (2, 109, .ref 2, 73, 3), (2, 112, .ref 2, 78, 1), (2, 115, .ref 1, 8, 1), (2, 118, .ref 1, 15, 3), (2, 122, .ref 2, 74, 2), (3, 125, .null, 77, 2), (2, 128, .ref 1, 9, 1), (2, 131, .ref 1, 10, 2), (2, 134, .ref 1, 13, 2), (2, 137, .ref 2, 75, 2), (0, 140, .int 0, 1, 10), (2, 143, .ref 1, 28, 4), (2, 147, .ref 2, 79, 1), (2, 150, .ref 2, 82, 1), (2, 153, .ref 2, 84, 1), (2, 156, .ref 2, 83, 1), (2, 159, .ref 2, 85, 3), (3, 162, .null, 68, 1), (0, 165, .null, 1, 7), (2, 168, .ref 1, 11, 2), (2, 171, .ref 1, 12, 3), (2, 174, .ref 2, 86, 2), (6, 177, .long (-1000000000000000001), 0, 0), (6, 179, .long (-1000000000000000002), 0, 0), (2, 181, .ref 2, 88, 4), (2, 185, .ref 2, 89, 3), (3, 189, .null, 92, 2), (3, 192, .null, 93, 2), (5, 196, .int 65537, 0, 0), (3, 197, .null, 70, 1), (2, 200, .ref 1, 23, 3), (0, 203, .int 0, 1, 13), (0, 206, .int 1, 2, 6), (0, 210, .int 1, 2, 7), (2, 213, .ref 1, 32, 3), (2, 216, .ref 0, 2, 2), (3, 219, .null, 3, 1), (3, 222, .null, 4, 1), (2, 225, .ref 1, 14, 2), (2, 228, .ref 2, 72, 4), (2, 232, .ref 1, 16, 2), (3, 235, .null, 76, 2), (2, 238, .ref 1, 18, 2), (3, 241, .null, 155, 1), (2, 246, .ref 1, 29, 2), (2, 249, .ref 2, 80, 1), (2, 252, .ref 2, 81, 2), (2, 255, .ref 1, 30, 3), (3, 258, .null, 1002, 2), (2, 263, .ref 2, 87, 3), (3, 266, .null, 90, 3), (2, 269, .ref 1, 27, 1), (3, 272, .null, 91, 2)]
theorem kk_2_0 : px_okK px_T 2 (4, 1, .null, 1000, 1) := by
  exact ⟨w_13, w_14, w_15⟩
theorem kk_2_1 : px_okK px_T 2 (1, 7, .null, 1, 0) := by
  exact ⟨by decide, w_16, w_17, w_2⟩
theorem kk_2_2 : px_okK px_T 2 (4, 9, .null, 6, 1) := by
  exact ⟨mX1_init, rfl, rfl, by decide, np_X1_init, rfl, w_19, (Or.inr ⟨_, w_18⟩)⟩
theorem kk_2_3 : px_okK px_T 2 (0, 10, .null, 2, 0) := by
  exact ⟨by decide, by decide, Or.inl w_93, Or.inl ⟨rfl, rfl⟩⟩
theorem kk_2_4 : px_okK px_T 2 (0, 16, .null, 2, 1) := by
  exact ⟨by decide, by decide, Or.inl w_94, Or.inl ⟨rfl, rfl⟩⟩
theorem kk_2_5 : px_okK px_T 2 (0, 19, .null, 2, 2) := by
  exact ⟨by decide, by decide, Or.inl w_95, Or.inl ⟨rfl, rfl⟩⟩
theorem kk_2_6 : px_okK px_T 2 (0, 22, .null, 2, 3) := by
  exact ⟨by decide, by decide, Or.inl w_96, Or.inl ⟨rfl, rfl⟩⟩
theorem kk_2_7 : px_okK px_T 2 (1, 25, .null, 0, 0) := by
  exact ⟨by decide, w_79, w_80, w_3⟩
theorem kk_2_8 : px_okK px_T 2 (4, 27, .null, 0, 1) := by
  exact ⟨mX0_init, rfl, rfl, by decide, np_X0_init, rfl, w_82, (Or.inr ⟨_, w_81⟩)⟩
theorem kk_2_9 : px_okK px_T 2 (0, 28, .null, 2, 4) := by
  exact ⟨by decide, by decide, Or.inl w_97, Or.inl ⟨rfl, rfl⟩⟩
theorem kk_2_10 : px_okK px_T 2 (0, 32, .null, 2, 5) := by
  exact ⟨by decide, by decide, Or.inl w_98, Or.inl ⟨rfl, rfl⟩⟩
theorem kk_2_11 : px_okK px_T 2 (3, 36, .null, 65, 1) := by
  exact ⟨mX2_isOfEight, rfl, np_X2_isOfEight, w_129, (Or.inl w_128)⟩
theorem kk_2_12 : px_okK px_T 2 (3, 40, .null, 66, 1) := by
  exact ⟨mX2_isSet, rfl, np_X2_isSet, w_132, (Or.inl w_131)⟩
theorem kk_2_13 : px_okK px_T 2 (0, 43, .null, 1, 0) := by
  exact ⟨by decide, by decide, Or.inr ⟨by decide, _, w_23⟩, Or.inl ⟨rfl, rfl⟩⟩
theorem kk_2_14 : px_okK px_T 2 (2, 46, .ref 1, 17, 2) := by
  exact ⟨mX1_withAllAbove, rfl, rfl, by decide, by decide, np_X1_withAllAbove, w_136, ws_0, (Or.inr ⟨_, w_134⟩)⟩
theorem kk_2_15 : px_okK px_T 2 (2, 50, .ref 1, 25, 2) := by
  exact ⟨mX1_unpaint, rfl, rfl, by decide, by decide, np_X1_unpaint, w_144, ws_2, (Or.inr ⟨_, w_142⟩)⟩
theorem kk_2_16 : px_okK px_T 2 (0, 54, .null, 1, 1) := by
  exact ⟨by decide, by decide, Or.inr ⟨by decide, _, w_25⟩, Or.inl ⟨rfl, rfl⟩⟩
theorem kk_2_17 : px_okK px_T 2 (0, 57, .null, 1, 2) := by
  exact ⟨by decide, by decide, Or.inr ⟨by decide, _, w_27⟩, Or.inl ⟨rfl, rfl⟩⟩
theorem kk_2_18 : px_okK px_T 2 (0, 60, .null, 1, 4) := by
  exact ⟨by decide, by decide, Or.inr ⟨by decide, _, w_30⟩, Or.inl ⟨rfl, rfl⟩⟩
theorem kk_2_19 : px_okK px_T 2 (0, 63, .int 0, 1, 8) := by
  exact ⟨by decide, by decide, Or.inr ⟨by decide, _, w_36⟩, Or.inr (Or.inl ⟨rfl, rfl⟩)⟩
theorem kk_2_20 : px_okK px_T 2 (0, 67, .int 0, 0, 1) := by
  exact ⟨by decide, by decide, Or.inr ⟨by decide, _, w_87⟩, Or.inr (Or.inl ⟨rfl, rfl⟩)⟩
theorem kk_2_21 : px_okK px_T 2 (2, 70, .ref 0, 1, 2) := by
  exact ⟨mX0_write, rfl, rfl, by decide, by decide, np_X0_write, w_156, ws_3, (Or.inr ⟨_, w_154⟩)⟩
theorem kk_2_22 : px_okK px_T 2 (2, 73, .ref 0, 5, 1) := by
  exact ⟨mX0_firstFault, rfl, rfl, by decide, by decide, np_X0_firstFault, w_168, ws_4, (Or.inr ⟨_, w_166⟩)⟩
theorem kk_2_23 : px_okK px_T 2 (3, 77, .null, 67, 1) := by
  exact ⟨mX2_isEitherOne, rfl, np_X2_isEitherOne, w_182, (Or.inl w_181)⟩
theorem kk_2_24 : px_okK px_T 2 (2, 80, .ref 2, 69, 1) := by
  exact ⟨mX2_tryReign, rfl, rfl, by decide, by decide, np_X2_tryReign, w_186, ws_6, (Or.inl w_184)⟩
theorem kk_2_25 : px_okK px_T 2 (0, 83, .int 0, 2, 8) := by
  exact ⟨by decide, by decide, Or.inl w_101, Or.inr (Or.inl ⟨rfl, rfl⟩)⟩
theorem kk_2_26 : px_okK px_T 2 (0, 86, .int 0, 2, 9) := by
  exact ⟨by decide, by decide, Or.inl w_102, Or.inr (Or.inl ⟨rfl, rfl⟩)⟩
theorem kk_2_27 : px_okK px_T 2 (2, 89, .ref 1, 7, 2) := by
  exact ⟨mX1_copyFrom, rfl, rfl, by decide, by decide, np_X1_copyFrom, w_190, ws_7, (Or.inr ⟨_, w_188⟩)⟩
theorem kk_2_28 : px_okK px_T 2 (2, 93, .ref 1, 31, 2) := by
  exact ⟨mX1_tellState, rfl, rfl, by decide, by decide, np_X1_tellState, w_258, ws_18, (Or.inr ⟨_, w_256⟩)⟩
theorem kk_2_29 : px_okK px_T 2 (0, 96, .int 0, 1, 12) := by
  exact ⟨by decide, by decide, Or.inr ⟨by decide, _, w_42⟩, Or.inr (Or.inl ⟨rfl, rfl⟩)⟩
theorem kk_2_30 : px_okK px_T 2 (0, 99, .int 0, 1, 14) := by
  exact ⟨by decide, by decide, Or.inr ⟨by decide, _, w_46⟩, Or.inr (Or.inl ⟨rfl, rfl⟩)⟩
theorem kk_2_31 : px_okK px_T 2 (2, 102, .ref 1, 20, 3) := by
  exact ⟨mX1_whyNot, rfl, rfl, by decide, by decide, np_X1_whyNot, w_206, ws_9, (Or.inr ⟨_, w_268⟩)⟩
theorem kk_2_32 : px_okK px_T 2 (2, 106, .ref 2, 71, 3) := by
  exact ⟨mX2_cheapestPlan, rfl, rfl, by decide, by decide, np_X2_cheapestPlan, w_275, ws_19, (Or.inl w_273)⟩
theorem kk_2_33 : px_okK px_T 2 (2, 109, .ref 2, 73, 3) := by
  exact ⟨mX2_tellPlan, rfl, rfl, by decide, by decide, np_X2_tellPlan, w_294, ws_23, (Or.inl w_292)⟩
theorem kk_2_34 : px_okK px_T 2 (2, 112, .ref 2, 78, 1) := by
  exact ⟨mX2_clearBySet, rfl, rfl, by decide, by decide, np_X2_clearBySet, w_306, ws_24, (Or.inl w_304)⟩
theorem kk_2_35 : px_okK px_T 2 (2, 115, .ref 1, 8, 1) := by
  exact ⟨mX1_doneParts, rfl, rfl, by decide, by decide, np_X1_doneParts, w_214, ws_11, (Or.inr ⟨_, w_277⟩)⟩
theorem kk_2_36 : px_okK px_T 2 (2, 118, .ref 1, 15, 3) := by
  exact ⟨mX1_canFinish, rfl, rfl, by decide, by decide, np_X1_canFinish, w_310, ws_25, (Or.inr ⟨_, w_308⟩)⟩
theorem kk_2_37 : px_okK px_T 2 (2, 122, .ref 2, 74, 2) := by
  exact ⟨mX2_fewestToBar, rfl, rfl, by decide, by decide, np_X2_fewestToBar, w_318, ws_26, (Or.inl w_316)⟩
theorem kk_2_38 : px_okK px_T 2 (3, 125, .null, 77, 2) := by
  exact ⟨mX2_tellFewest, rfl, np_X2_tellFewest, w_330, (Or.inl w_329)⟩
theorem kk_2_39 : px_okK px_T 2 (2, 128, .ref 1, 9, 1) := by
  exact ⟨mX1_paintedParts, rfl, rfl, by decide, by decide, np_X1_paintedParts, w_338, ws_28, (Or.inr ⟨_, w_336⟩)⟩
theorem kk_2_40 : px_okK px_T 2 (2, 131, .ref 1, 10, 2) := by
  exact ⟨mX1_powersOf, rfl, rfl, by decide, by decide, np_X1_powersOf, w_226, ws_14, (Or.inr ⟨_, w_286⟩)⟩
theorem kk_2_41 : px_okK px_T 2 (2, 134, .ref 1, 13, 2) := by
  exact ⟨mX1_partsThatGive, rfl, rfl, by decide, by decide, np_X1_partsThatGive, w_346, ws_29, (Or.inr ⟨_, w_344⟩)⟩
theorem kk_2_42 : px_okK px_T 2 (2, 137, .ref 2, 75, 2) := by
  exact ⟨mX2_fewestToGuard, rfl, rfl, by decide, by decide, np_X2_fewestToGuard, w_354, ws_30, (Or.inl w_352)⟩
theorem kk_2_43 : px_okK px_T 2 (0, 140, .int 0, 1, 10) := by
  exact ⟨by decide, by decide, Or.inr ⟨by decide, _, w_39⟩, Or.inr (Or.inl ⟨rfl, rfl⟩)⟩
theorem kk_2_44 : px_okK px_T 2 (2, 143, .ref 1, 28, 4) := by
  exact ⟨mX1_addSight, rfl, rfl, by decide, by decide, np_X1_addSight, w_362, ws_31, (Or.inr ⟨_, w_360⟩)⟩
theorem kk_2_45 : px_okK px_T 2 (2, 147, .ref 2, 79, 1) := by
  exact ⟨mX2_findHidden, rfl, rfl, by decide, by decide, np_X2_findHidden, w_374, ws_32, (Or.inl w_372)⟩
theorem kk_2_46 : px_okK px_T 2 (2, 150, .ref 2, 82, 1) := by
  exact ⟨mX2_countHidden, rfl, rfl, by decide, by decide, np_X2_countHidden, w_394, ws_37, (Or.inl w_392)⟩
theorem kk_2_47 : px_okK px_T 2 (2, 153, .ref 2, 84, 1) := by
  exact ⟨mX2_partsInAllHidden, rfl, rfl, by decide, by decide, np_X2_partsInAllHidden, w_398, ws_38, (Or.inl w_396)⟩
theorem kk_2_48 : px_okK px_T 2 (2, 156, .ref 2, 83, 1) := by
  exact ⟨mX2_partsInSomeHidden, rfl, rfl, by decide, by decide, np_X2_partsInSomeHidden, w_402, ws_39, (Or.inl w_400)⟩
theorem kk_2_49 : px_okK px_T 2 (2, 159, .ref 2, 85, 3) := by
  exact ⟨mX2_mostLeftBy, rfl, rfl, by decide, by decide, np_X2_mostLeftBy, w_410, ws_40, (Or.inl w_408)⟩
theorem kk_2_50 : px_okK px_T 2 (3, 162, .null, 68, 1) := by
  exact ⟨mX2_isColony, rfl, np_X2_isColony, w_420, (Or.inl w_419)⟩
theorem kk_2_51 : px_okK px_T 2 (0, 165, .null, 1, 7) := by
  exact ⟨by decide, by decide, Or.inr ⟨by decide, _, w_34⟩, Or.inl ⟨rfl, rfl⟩⟩
theorem kk_2_52 : px_okK px_T 2 (2, 168, .ref 1, 11, 2) := by
  exact ⟨mX1_actsWithin, rfl, rfl, by decide, by decide, np_X1_actsWithin, w_240, ws_17, (Or.inr ⟨_, w_287⟩)⟩
theorem kk_2_53 : px_okK px_T 2 (2, 171, .ref 1, 12, 3) := by
  exact ⟨mX1_givesAll, rfl, rfl, by decide, by decide, np_X1_givesAll, w_322, ws_27, (Or.inr ⟨_, w_320⟩)⟩
theorem kk_2_54 : px_okK px_T 2 (2, 174, .ref 2, 86, 2) := by
  exact ⟨mX2_findWinningParts, rfl, rfl, by decide, by decide, np_X2_findWinningParts, w_440, ws_41, (Or.inl w_438)⟩
theorem kk_2_55 : px_okK px_T 2 (6, 177, .long (-1000000000000000001), 0, 0) := by
  exact ⟨_, rfl, w_450⟩
theorem kk_2_56 : px_okK px_T 2 (6, 179, .long (-1000000000000000002), 0, 0) := by
  exact ⟨_, rfl, w_451⟩
theorem kk_2_57 : px_okK px_T 2 (2, 181, .ref 2, 88, 4) := by
  exact ⟨mX2_feverChances, rfl, rfl, by decide, by decide, np_X2_feverChances, w_454, ws_43, (Or.inl w_452)⟩
theorem kk_2_58 : px_okK px_T 2 (2, 185, .ref 2, 89, 3) := by
  exact ⟨mX2_feverHours, rfl, rfl, by decide, by decide, np_X2_feverHours, w_471, ws_45, (Or.inl w_469)⟩
theorem kk_2_59 : px_okK px_T 2 (3, 189, .null, 92, 2) := by
  exact ⟨mX2_power, rfl, np_X2_power, w_463, (Or.inl w_462)⟩
theorem kk_2_60 : px_okK px_T 2 (3, 192, .null, 93, 2) := by
  exact ⟨mX2_commonDivisor, rfl, np_X2_commonDivisor, w_474, (Or.inl w_473)⟩
theorem kk_2_61 : px_okK px_T 2 (5, 196, .int 65537, 0, 0) := by
  exact ⟨_, rfl, w_480⟩
theorem kk_2_62 : px_okK px_T 2 (3, 197, .null, 70, 1) := by
  exact ⟨mX2_kindOfDraw, rfl, np_X2_kindOfDraw, w_482, (Or.inl w_481)⟩
theorem kk_2_63 : px_okK px_T 2 (2, 200, .ref 1, 23, 3) := by
  exact ⟨mX1_takeIfItCanBe, rfl, rfl, by decide, by decide, np_X1_takeIfItCanBe, w_202, ws_8, (Or.inr ⟨_, w_200⟩)⟩
theorem kk_2_64 : px_okK px_T 2 (0, 203, .int 0, 1, 13) := by
  exact ⟨by decide, by decide, Or.inr ⟨by decide, _, w_44⟩, Or.inr (Or.inl ⟨rfl, rfl⟩)⟩
theorem kk_2_65 : px_okK px_T 2 (0, 206, .int 1, 2, 6) := by
  exact ⟨by decide, by decide, Or.inl w_99, Or.inr (Or.inr ⟨rfl, rfl⟩)⟩
theorem kk_2_66 : px_okK px_T 2 (0, 210, .int 1, 2, 7) := by
  exact ⟨by decide, by decide, Or.inl w_100, Or.inr (Or.inr ⟨rfl, rfl⟩)⟩
theorem kk_2_67 : px_okK px_T 2 (2, 213, .ref 1, 32, 3) := by
  exact ⟨mX1_tellPart, rfl, rfl, by decide, by decide, np_X1_tellPart, w_498, ws_46, (Or.inr ⟨_, w_496⟩)⟩
theorem kk_2_68 : px_okK px_T 2 (2, 216, .ref 0, 2, 2) := by
  exact ⟨mX0_signAt, rfl, rfl, by decide, by decide, np_X0_signAt, w_172, ws_5, (Or.inr ⟨_, w_195⟩)⟩
theorem kk_2_69 : px_okK px_T 2 (3, 219, .null, 3, 1) := by
  exact ⟨mX0_kindOf, rfl, np_X0_kindOf, w_175, (Or.inr ⟨_, w_196⟩)⟩
theorem kk_2_70 : px_okK px_T 2 (3, 222, .null, 4, 1) := by
  exact ⟨mX0_numberOf, rfl, np_X0_numberOf, w_198, (Or.inr ⟨_, w_197⟩)⟩
theorem kk_2_71 : px_okK px_T 2 (2, 225, .ref 1, 14, 2) := by
  exact ⟨mX1_isPicture, rfl, rfl, by decide, by decide, np_X1_isPicture, w_280, ws_20, (Or.inr ⟨_, w_278⟩)⟩
theorem kk_2_72 : px_okK px_T 2 (2, 228, .ref 2, 72, 4) := by
  exact ⟨mX2_fitsPlan, rfl, rfl, by decide, by decide, np_X2_fitsPlan, w_284, ws_21, (Or.inl w_282)⟩
theorem kk_2_73 : px_okK px_T 2 (2, 232, .ref 1, 16, 2) := by
  exact ⟨mX1_hoursToPaint, rfl, rfl, by decide, by decide, np_X1_hoursToPaint, w_290, ws_22, (Or.inr ⟨_, w_288⟩)⟩
theorem kk_2_74 : px_okK px_T 2 (3, 235, .null, 76, 2) := by
  exact ⟨mX2_isFewer, rfl, np_X2_isFewer, w_325, (Or.inl w_324)⟩
theorem kk_2_75 : px_okK px_T 2 (2, 238, .ref 1, 18, 2) := by
  exact ⟨mX1_fallingWith, rfl, rfl, by decide, by decide, np_X1_fallingWith, w_140, ws_1, (Or.inr ⟨_, w_328⟩)⟩
theorem kk_2_76 : px_okK px_T 2 (3, 241, .null, 155, 1) := by
  exact ⟨mJ6_bitCount_0f7a4, rfl, np_J6_bitCount_0f7a4, w_243, (Or.inl w_327)⟩
theorem kk_2_77 : px_okK px_T 2 (2, 246, .ref 1, 29, 2) := by
  exact ⟨mX1_nextSightStep, rfl, rfl, by decide, by decide, np_X1_nextSightStep, w_378, ws_33, (Or.inr ⟨_, w_376⟩)⟩
theorem kk_2_78 : px_okK px_T 2 (2, 249, .ref 2, 80, 1) := by
  exact ⟨mX2_markAllWithMore, rfl, rfl, by decide, by decide, np_X2_markAllWithMore, w_382, ws_34, (Or.inl w_380)⟩
theorem kk_2_79 : px_okK px_T 2 (2, 252, .ref 2, 81, 2) := by
  exact ⟨mX2_keepThoseSeenAt, rfl, rfl, by decide, by decide, np_X2_keepThoseSeenAt, w_386, ws_35, (Or.inl w_384)⟩
theorem kk_2_80 : px_okK px_T 2 (2, 255, .ref 1, 30, 3) := by
  exact ⟨mX1_fitsSightsAt, rfl, rfl, by decide, by decide, np_X1_fitsSightsAt, w_390, ws_36, (Or.inr ⟨_, w_388⟩)⟩
theorem kk_2_81 : px_okK px_T 2 (3, 258, .null, 1002, 2) := by
  exact ⟨w_412, w_413, w_7, w_414⟩
theorem kk_2_82 : px_okK px_T 2 (2, 263, .ref 2, 87, 3) := by
  exact ⟨mX2_winningPart, rfl, rfl, by decide, by decide, np_X2_winningPart, w_444, ws_42, (Or.inl w_442)⟩
theorem kk_2_83 : px_okK px_T 2 (3, 266, .null, 90, 3) := by
  exact ⟨mX2_feverWeight, rfl, np_X2_feverWeight, w_457, (Or.inl w_456)⟩
theorem kk_2_84 : px_okK px_T 2 (2, 269, .ref 1, 27, 1) := by
  exact ⟨mX1_paintLeast, rfl, rfl, by decide, by decide, np_X1_paintLeast, w_467, ws_44, (Or.inr ⟨_, w_465⟩)⟩
theorem kk_2_85 : px_okK px_T 2 (3, 272, .null, 91, 2) := by
  exact ⟨mX2_choices, rfl, np_X2_choices, w_460, (Or.inl w_459)⟩
theorem kl_2 : ∀ q ∈ px_K2, px_okK px_T 2 q := by
  intro q hq
  simp only [px_K2, List.mem_cons, List.not_mem_nil, or_false] at hq
  rcases hq with rfl | rfl | rfl | rfl | rfl | rfl | rfl | rfl | rfl | rfl | rfl | rfl | rfl | rfl | rfl | rfl | rfl | rfl | rfl | rfl | rfl | rfl | rfl | rfl | rfl | rfl | rfl | rfl | rfl | rfl | rfl | rfl | rfl | rfl | rfl | rfl | rfl | rfl | rfl | rfl | rfl | rfl | rfl | rfl | rfl | rfl | rfl | rfl | rfl | rfl | rfl | rfl | rfl | rfl | rfl | rfl | rfl | rfl | rfl | rfl | rfl | rfl | rfl | rfl | rfl | rfl | rfl | rfl | rfl | rfl | rfl | rfl | rfl | rfl | rfl | rfl | rfl | rfl | rfl | rfl | rfl | rfl | rfl | rfl | rfl | rfl
  · exact kk_2_0
  · exact kk_2_1
  · exact kk_2_2
  · exact kk_2_3
  · exact kk_2_4
  · exact kk_2_5
  · exact kk_2_6
  · exact kk_2_7
  · exact kk_2_8
  · exact kk_2_9
  · exact kk_2_10
  · exact kk_2_11
  · exact kk_2_12
  · exact kk_2_13
  · exact kk_2_14
  · exact kk_2_15
  · exact kk_2_16
  · exact kk_2_17
  · exact kk_2_18
  · exact kk_2_19
  · exact kk_2_20
  · exact kk_2_21
  · exact kk_2_22
  · exact kk_2_23
  · exact kk_2_24
  · exact kk_2_25
  · exact kk_2_26
  · exact kk_2_27
  · exact kk_2_28
  · exact kk_2_29
  · exact kk_2_30
  · exact kk_2_31
  · exact kk_2_32
  · exact kk_2_33
  · exact kk_2_34
  · exact kk_2_35
  · exact kk_2_36
  · exact kk_2_37
  · exact kk_2_38
  · exact kk_2_39
  · exact kk_2_40
  · exact kk_2_41
  · exact kk_2_42
  · exact kk_2_43
  · exact kk_2_44
  · exact kk_2_45
  · exact kk_2_46
  · exact kk_2_47
  · exact kk_2_48
  · exact kk_2_49
  · exact kk_2_50
  · exact kk_2_51
  · exact kk_2_52
  · exact kk_2_53
  · exact kk_2_54
  · exact kk_2_55
  · exact kk_2_56
  · exact kk_2_57
  · exact kk_2_58
  · exact kk_2_59
  · exact kk_2_60
  · exact kk_2_61
  · exact kk_2_62
  · exact kk_2_63
  · exact kk_2_64
  · exact kk_2_65
  · exact kk_2_66
  · exact kk_2_67
  · exact kk_2_68
  · exact kk_2_69
  · exact kk_2_70
  · exact kk_2_71
  · exact kk_2_72
  · exact kk_2_73
  · exact kk_2_74
  · exact kk_2_75
  · exact kk_2_76
  · exact kk_2_77
  · exact kk_2_78
  · exact kk_2_79
  · exact kk_2_80
  · exact kk_2_81
  · exact kk_2_82
  · exact kk_2_83
  · exact kk_2_84
  · exact kk_2_85
def px_K3 : List (Nat × Nat × Value × Nat × Nat) := [(4, 1, .null, 1000, 1), (0, 7, .null, 3, 0), (0, 13, .null, 3, 1), (0, 16, .null, 3, 2), (0, 19, .null, 3, 3), (0, 22, .null, 3, 4), (0, 25, .null, 3, 7), (0, 28, .null, 3, 9), (0, 31, .null, 3, 11), (0, 34, .null, 3, 12), (0, 37, .null, 3, 20), (0, 40, .null, 3, 21), (0, 44, .null, 3, 22), (0, 47, .null, 3, 23), (0, 50, .null, 3, 24), (0, 53, .null, 3, 25), (3, 56, .null, 95, 3), (3, 60, .null, 98, 1), (2, 64, .ref 3, 99, 2), (3, 68, .null, 96, 2), (0, 72, .int 0, 3, 5), (0, 76, .int 0, 3, 10), (3, 79, .null, 104, 1), (2, 82, .ref 3, 105, 1), (0, 86, .int 0, 3, 13), (0, 89, .int 0, 3, 6), (0, 92, .int 0, 3, 14), (0, 95, .int 0, 3, 15), (0, 98, .int 0, 3, 16), (0, 101, .int 0, 3, 17), (2, 104, .ref 3, 109, 2), (2, 107, .ref 3, 108, 1), (2, 110, .ref 3, 111, 1), (2, 113, .ref 3, 107, 1), (0, 116, .int 0, 3, 19), (0, 119, .int 0, 3, 18), (2, 122, .ref 3, 114, 2), (2, 126, .ref 3, 112, 2), (2, 129, .ref 3, 113, 2), (2, 132, .ref 3, 115, 2), (2, 135, .ref 3, 116, 2), (2, 138, .ref 3, 117, 1), (2, 141, .ref 3, 119, 1), (2, 144, .ref 3, 121, 2), (2, 147, .ref 3, 125, 2), (2, 150, .ref 3, 126, 2), (2, 153, .ref 3, 110, 3), (2, 156, .ref 3, 127, 3), (2, 160, .ref 3, 131, 1), (3, 163, .null, 97, 1), (2, 166, .ref 3, 134, 2), (0, 169, .int 0, 3, 8), (2, 172, .ref 3, 140, 2), (2, 175, .ref 3, 139, 1), (5, 178, .int 1000000, 0, 0), (3, 179, .null, 143, 1), (2, 182, .ref 3, 145, 2), (6, 185, .long (-1000000000000000001), 0, 0), (6, 187, .long (-1000000000000000002), 0, 0), (6, 189, .long 10, 0, 0), (5, 191, .int 65537, 0, 0)]
theorem kk_3_0 : px_okK px_T 3 (4, 1, .null, 1000, 1) := by
  exact ⟨w_505, w_14, w_15⟩
theorem kk_3_1 : px_okK px_T 3 (0, 7, .null, 3, 0) := by
  exact ⟨by decide, by decide, Or.inl w_506, Or.inl ⟨rfl, rfl⟩⟩
theorem kk_3_2 : px_okK px_T 3 (0, 13, .null, 3, 1) := by
  exact ⟨by decide, by decide, Or.inl w_507, Or.inl ⟨rfl, rfl⟩⟩
theorem kk_3_3 : px_okK px_T 3 (0, 16, .null, 3, 2) := by
  exact ⟨by decide, by decide, Or.inl w_508, Or.inl ⟨rfl, rfl⟩⟩
theorem kk_3_4 : px_okK px_T 3 (0, 19, .null, 3, 3) := by
  exact ⟨by decide, by decide, Or.inl w_509, Or.inl ⟨rfl, rfl⟩⟩
theorem kk_3_5 : px_okK px_T 3 (0, 22, .null, 3, 4) := by
  exact ⟨by decide, by decide, Or.inl w_510, Or.inl ⟨rfl, rfl⟩⟩
theorem kk_3_6 : px_okK px_T 3 (0, 25, .null, 3, 7) := by
  exact ⟨by decide, by decide, Or.inl w_513, Or.inl ⟨rfl, rfl⟩⟩
theorem kk_3_7 : px_okK px_T 3 (0, 28, .null, 3, 9) := by
  exact ⟨by decide, by decide, Or.inl w_515, Or.inl ⟨rfl, rfl⟩⟩
theorem kk_3_8 : px_okK px_T 3 (0, 31, .null, 3, 11) := by
  exact ⟨by decide, by decide, Or.inl w_517, Or.inl ⟨rfl, rfl⟩⟩
theorem kk_3_9 : px_okK px_T 3 (0, 34, .null, 3, 12) := by
  exact ⟨by decide, by decide, Or.inl w_518, Or.inl ⟨rfl, rfl⟩⟩
theorem kk_3_10 : px_okK px_T 3 (0, 37, .null, 3, 20) := by
  exact ⟨by decide, by decide, Or.inl w_526, Or.inl ⟨rfl, rfl⟩⟩
theorem kk_3_11 : px_okK px_T 3 (0, 40, .null, 3, 21) := by
  exact ⟨by decide, by decide, Or.inl w_527, Or.inl ⟨rfl, rfl⟩⟩
theorem kk_3_12 : px_okK px_T 3 (0, 44, .null, 3, 22) := by
  exact ⟨by decide, by decide, Or.inl w_528, Or.inl ⟨rfl, rfl⟩⟩
theorem kk_3_13 : px_okK px_T 3 (0, 47, .null, 3, 23) := by
  exact ⟨by decide, by decide, Or.inl w_529, Or.inl ⟨rfl, rfl⟩⟩
theorem kk_3_14 : px_okK px_T 3 (0, 50, .null, 3, 24) := by
  exact ⟨by decide, by decide, Or.inl w_530, Or.inl ⟨rfl, rfl⟩⟩
theorem kk_3_15 : px_okK px_T 3 (0, 53, .null, 3, 25) := by
  exact ⟨by decide, by decide, Or.inl w_531, Or.inl ⟨rfl, rfl⟩⟩
theorem kk_3_16 : px_okK px_T 3 (3, 56, .null, 95, 3) := by
  exact ⟨mX3_in, rfl, np_X3_in, w_594, (Or.inl w_593)⟩
theorem kk_3_17 : px_okK px_T 3 (3, 60, .null, 98, 1) := by
  exact ⟨mX3_isOne, rfl, np_X3_isOne, w_591, (Or.inl w_590)⟩
theorem kk_3_18 : px_okK px_T 3 (2, 64, .ref 3, 99, 2) := by
  exact ⟨mX3_above, rfl, rfl, by decide, by decide, np_X3_above, w_598, ws_47, (Or.inl w_596)⟩
theorem kk_3_19 : px_okK px_T 3 (3, 68, .null, 96, 2) := by
  exact ⟨mX3_has, rfl, np_X3_has, w_601, (Or.inl w_600)⟩
theorem kk_3_20 : px_okK px_T 3 (0, 72, .int 0, 3, 5) := by
  exact ⟨by decide, by decide, Or.inl w_511, Or.inr (Or.inl ⟨rfl, rfl⟩)⟩
theorem kk_3_21 : px_okK px_T 3 (0, 76, .int 0, 3, 10) := by
  exact ⟨by decide, by decide, Or.inl w_516, Or.inr (Or.inl ⟨rfl, rfl⟩)⟩
theorem kk_3_22 : px_okK px_T 3 (3, 79, .null, 104, 1) := by
  exact ⟨mX3_isPart, rfl, np_X3_isPart, w_624, (Or.inl w_623)⟩
theorem kk_3_23 : px_okK px_T 3 (2, 82, .ref 3, 105, 1) := by
  exact ⟨mX3_faultOf, rfl, rfl, by decide, by decide, np_X3_faultOf, w_621, ws_48, (Or.inl w_619)⟩
theorem kk_3_24 : px_okK px_T 3 (0, 86, .int 0, 3, 13) := by
  exact ⟨by decide, by decide, Or.inl w_519, Or.inr (Or.inl ⟨rfl, rfl⟩)⟩
theorem kk_3_25 : px_okK px_T 3 (0, 89, .int 0, 3, 6) := by
  exact ⟨by decide, by decide, Or.inl w_512, Or.inr (Or.inl ⟨rfl, rfl⟩)⟩
theorem kk_3_26 : px_okK px_T 3 (0, 92, .int 0, 3, 14) := by
  exact ⟨by decide, by decide, Or.inl w_520, Or.inr (Or.inl ⟨rfl, rfl⟩)⟩
theorem kk_3_27 : px_okK px_T 3 (0, 95, .int 0, 3, 15) := by
  exact ⟨by decide, by decide, Or.inl w_521, Or.inr (Or.inl ⟨rfl, rfl⟩)⟩
theorem kk_3_28 : px_okK px_T 3 (0, 98, .int 0, 3, 16) := by
  exact ⟨by decide, by decide, Or.inl w_522, Or.inr (Or.inl ⟨rfl, rfl⟩)⟩
theorem kk_3_29 : px_okK px_T 3 (0, 101, .int 0, 3, 17) := by
  exact ⟨by decide, by decide, Or.inl w_523, Or.inr (Or.inl ⟨rfl, rfl⟩)⟩
theorem kk_3_30 : px_okK px_T 3 (2, 104, .ref 3, 109, 2) := by
  exact ⟨mX3_powers, rfl, rfl, by decide, by decide, np_X3_powers, w_652, ws_54, (Or.inl w_650)⟩
theorem kk_3_31 : px_okK px_T 3 (2, 107, .ref 3, 108, 1) := by
  exact ⟨mX3_doneNow, rfl, rfl, by decide, by decide, np_X3_doneNow, w_648, ws_53, (Or.inl w_646)⟩
theorem kk_3_32 : px_okK px_T 3 (2, 110, .ref 3, 111, 1) := by
  exact ⟨mX3_powersNow, rfl, rfl, by decide, by decide, np_X3_powersNow, w_644, ws_52, (Or.inl w_642)⟩
theorem kk_3_33 : px_okK px_T 3 (2, 113, .ref 3, 107, 1) := by
  exact ⟨mX3_asNow, rfl, rfl, by decide, by decide, np_X3_asNow, w_636, ws_50, (Or.inl w_634)⟩
theorem kk_3_34 : px_okK px_T 3 (0, 116, .int 0, 3, 19) := by
  exact ⟨by decide, by decide, Or.inl w_525, Or.inr (Or.inl ⟨rfl, rfl⟩)⟩
theorem kk_3_35 : px_okK px_T 3 (0, 119, .int 0, 3, 18) := by
  exact ⟨by decide, by decide, Or.inl w_524, Or.inr (Or.inl ⟨rfl, rfl⟩)⟩
theorem kk_3_36 : px_okK px_T 3 (2, 122, .ref 3, 114, 2) := by
  exact ⟨mX3_over, rfl, rfl, by decide, by decide, np_X3_over, w_640, ws_51, (Or.inl w_638)⟩
theorem kk_3_37 : px_okK px_T 3 (2, 126, .ref 3, 112, 2) := by
  exact ⟨mX3_whyNoHour, rfl, rfl, by decide, by decide, np_X3_whyNoHour, w_656, ws_55, (Or.inl w_654)⟩
theorem kk_3_38 : px_okK px_T 3 (2, 129, .ref 3, 113, 2) := by
  exact ⟨mX3_paint, rfl, rfl, by decide, by decide, np_X3_paint, w_660, ws_56, (Or.inl w_658)⟩
theorem kk_3_39 : px_okK px_T 3 (2, 132, .ref 3, 115, 2) := by
  exact ⟨mX3_whyNoAct, rfl, rfl, by decide, by decide, np_X3_whyNoAct, w_664, ws_57, (Or.inl w_662)⟩
theorem kk_3_40 : px_okK px_T 3 (2, 135, .ref 3, 116, 2) := by
  exact ⟨mX3_make, rfl, rfl, by decide, by decide, np_X3_make, w_668, ws_58, (Or.inl w_666)⟩
theorem kk_3_41 : px_okK px_T 3 (2, 138, .ref 3, 117, 1) := by
  exact ⟨mX3_goReign, rfl, rfl, by decide, by decide, np_X3_goReign, w_632, ws_49, (Or.inl w_630)⟩
theorem kk_3_42 : px_okK px_T 3 (2, 141, .ref 3, 119, 1) := by
  exact ⟨mX3_barOfReign, rfl, rfl, by decide, by decide, np_X3_barOfReign, w_676, ws_59, (Or.inl w_674)⟩
theorem kk_3_43 : px_okK px_T 3 (2, 144, .ref 3, 121, 2) := by
  exact ⟨mX3_stateNow, rfl, rfl, by decide, by decide, np_X3_stateNow, w_684, ws_60, (Or.inl w_682)⟩
theorem kk_3_44 : px_okK px_T 3 (2, 147, .ref 3, 125, 2) := by
  exact ⟨mX3_isClosed, rfl, rfl, by decide, by decide, np_X3_isClosed, w_704, ws_62, (Or.inl w_702)⟩
theorem kk_3_45 : px_okK px_T 3 (2, 150, .ref 3, 126, 2) := by
  exact ⟨mX3_costOf, rfl, rfl, by decide, by decide, np_X3_costOf, w_708, ws_63, (Or.inl w_706)⟩
theorem kk_3_46 : px_okK px_T 3 (2, 153, .ref 3, 110, 3) := by
  exact ⟨mX3_givesAll, rfl, rfl, by decide, by decide, np_X3_givesAll, w_712, ws_64, (Or.inl w_710)⟩
theorem kk_3_47 : px_okK px_T 3 (2, 156, .ref 3, 127, 3) := by
  exact ⟨mX3_cheapest, rfl, rfl, by decide, by decide, np_X3_cheapest, w_700, ws_61, (Or.inl w_698)⟩
theorem kk_3_48 : px_okK px_T 3 (2, 160, .ref 3, 131, 1) := by
  exact ⟨mX3_begun, rfl, rfl, by decide, by decide, np_X3_begun, w_728, ws_65, (Or.inl w_726)⟩
theorem kk_3_49 : px_okK px_T 3 (3, 163, .null, 97, 1) := by
  exact ⟨mX3_bits, rfl, np_X3_bits, w_731, (Or.inl w_730)⟩
theorem kk_3_50 : px_okK px_T 3 (2, 166, .ref 3, 134, 2) := by
  exact ⟨mX3_aloneFor, rfl, rfl, by decide, by decide, np_X3_aloneFor, w_743, ws_66, (Or.inl w_741)⟩
theorem kk_3_51 : px_okK px_T 3 (0, 169, .int 0, 3, 8) := by
  exact ⟨by decide, by decide, Or.inl w_514, Or.inr (Or.inl ⟨rfl, rfl⟩)⟩
theorem kk_3_52 : px_okK px_T 3 (2, 172, .ref 3, 140, 2) := by
  exact ⟨mX3_layStep, rfl, rfl, by decide, by decide, np_X3_layStep, w_767, ws_68, (Or.inl w_765)⟩
theorem kk_3_53 : px_okK px_T 3 (2, 175, .ref 3, 139, 1) := by
  exact ⟨mX3_layHidden, rfl, rfl, by decide, by decide, np_X3_layHidden, w_763, ws_67, (Or.inl w_761)⟩
theorem kk_3_54 : px_okK px_T 3 (5, 178, .int 1000000, 0, 0) := by
  exact ⟨_, rfl, w_773⟩
theorem kk_3_55 : px_okK px_T 3 (3, 179, .null, 143, 1) := by
  exact ⟨mX3_isColony, rfl, np_X3_isColony, w_779, (Or.inl w_778)⟩
theorem kk_3_56 : px_okK px_T 3 (2, 182, .ref 3, 145, 2) := by
  exact ⟨mX3_madeBy, rfl, rfl, by decide, by decide, np_X3_madeBy, w_787, ws_69, (Or.inl w_785)⟩
theorem kk_3_57 : px_okK px_T 3 (6, 185, .long (-1000000000000000001), 0, 0) := by
  exact ⟨_, rfl, w_805⟩
theorem kk_3_58 : px_okK px_T 3 (6, 187, .long (-1000000000000000002), 0, 0) := by
  exact ⟨_, rfl, w_806⟩
theorem kk_3_59 : px_okK px_T 3 (6, 189, .long 10, 0, 0) := by
  exact ⟨_, rfl, w_807⟩
theorem kk_3_60 : px_okK px_T 3 (5, 191, .int 65537, 0, 0) := by
  exact ⟨_, rfl, w_812⟩
theorem kl_3 : ∀ q ∈ px_K3, px_okK px_T 3 q := by
  intro q hq
  simp only [px_K3, List.mem_cons, List.not_mem_nil, or_false] at hq
  rcases hq with rfl | rfl | rfl | rfl | rfl | rfl | rfl | rfl | rfl | rfl | rfl | rfl | rfl | rfl | rfl | rfl | rfl | rfl | rfl | rfl | rfl | rfl | rfl | rfl | rfl | rfl | rfl | rfl | rfl | rfl | rfl | rfl | rfl | rfl | rfl | rfl | rfl | rfl | rfl | rfl | rfl | rfl | rfl | rfl | rfl | rfl | rfl | rfl | rfl | rfl | rfl | rfl | rfl | rfl | rfl | rfl | rfl | rfl | rfl | rfl | rfl
  · exact kk_3_0
  · exact kk_3_1
  · exact kk_3_2
  · exact kk_3_3
  · exact kk_3_4
  · exact kk_3_5
  · exact kk_3_6
  · exact kk_3_7
  · exact kk_3_8
  · exact kk_3_9
  · exact kk_3_10
  · exact kk_3_11
  · exact kk_3_12
  · exact kk_3_13
  · exact kk_3_14
  · exact kk_3_15
  · exact kk_3_16
  · exact kk_3_17
  · exact kk_3_18
  · exact kk_3_19
  · exact kk_3_20
  · exact kk_3_21
  · exact kk_3_22
  · exact kk_3_23
  · exact kk_3_24
  · exact kk_3_25
  · exact kk_3_26
  · exact kk_3_27
  · exact kk_3_28
  · exact kk_3_29
  · exact kk_3_30
  · exact kk_3_31
  · exact kk_3_32
  · exact kk_3_33
  · exact kk_3_34
  · exact kk_3_35
  · exact kk_3_36
  · exact kk_3_37
  · exact kk_3_38
  · exact kk_3_39
  · exact kk_3_40
  · exact kk_3_41
  · exact kk_3_42
  · exact kk_3_43
  · exact kk_3_44
  · exact kk_3_45
  · exact kk_3_46
  · exact kk_3_47
  · exact kk_3_48
  · exact kk_3_49
  · exact kk_3_50
  · exact kk_3_51
  · exact kk_3_52
  · exact kk_3_53
  · exact kk_3_54
  · exact kk_3_55
  · exact kk_3_56
  · exact kk_3_57
  · exact kk_3_58
  · exact kk_3_59
  · exact kk_3_60
def px_K4 : List (Nat × Nat × Value × Nat × Nat) := [(5, 265, .int 1431655765, 0, 0), (5, 266, .int 858993459, 0, 0), (5, 267, .int 252645135, 0, 0)]
theorem kk_4_0 : px_okK px_T 4 (5, 265, .int 1431655765, 0, 0) := by
  exact ⟨_, rfl, w_245⟩
theorem kk_4_1 : px_okK px_T 4 (5, 266, .int 858993459, 0, 0) := by
  exact ⟨_, rfl, w_246⟩
theorem kk_4_2 : px_okK px_T 4 (5, 267, .int 252645135, 0, 0) := by
  exact ⟨_, rfl, w_247⟩
theorem kl_4 : ∀ q ∈ px_K4, px_okK px_T 4 q := by
  intro q hq
  simp only [px_K4, List.mem_cons, List.not_mem_nil, or_false] at hq
  rcases hq with rfl | rfl | rfl
  · exact kk_4_0
  · exact kk_4_1
  · exact kk_4_2
def px_K6 : List (Nat × Nat × Value × Nat × Nat) := [(1, 7, .null, 2, 0), (4, 9, .null, 33, 1), (1, 10, .null, 3, 0), (4, 12, .null, 94, 1), (2, 13, .ref 2, 34, 5), (2, 17, .ref 3, 100, 5), (2, 18, .ref 2, 35, 3), (2, 22, .ref 3, 101, 3), (2, 23, .ref 2, 36, 2), (2, 27, .ref 3, 102, 2), (2, 28, .ref 2, 37, 1), (2, 32, .ref 3, 103, 1), (2, 33, .ref 2, 38, 1), (2, 36, .ref 3, 106, 1), (2, 37, .ref 2, 39, 2), (2, 40, .ref 3, 118, 2), (2, 41, .ref 2, 40, 1), (2, 44, .ref 3, 120, 1), (2, 45, .ref 2, 41, 2), (2, 48, .ref 3, 122, 2), (2, 49, .ref 2, 42, 2), (2, 52, .ref 3, 123, 2), (2, 53, .ref 2, 43, 1), (2, 56, .ref 3, 124, 1), (2, 57, .ref 2, 44, 3), (2, 60, .ref 3, 128, 3), (2, 61, .ref 2, 45, 4), (2, 65, .ref 3, 129, 4), (2, 66, .ref 2, 46, 1), (2, 69, .ref 3, 130, 1), (2, 70, .ref 2, 47, 3), (2, 73, .ref 3, 132, 3), (2, 74, .ref 2, 48, 3), (2, 77, .ref 3, 133, 3), (2, 78, .ref 2, 49, 2), (2, 81, .ref 3, 135, 2), (2, 82, .ref 2, 50, 3), (2, 85, .ref 3, 136, 3), (2, 86, .ref 2, 51, 4), (2, 90, .ref 3, 137, 4), (2, 91, .ref 2, 52, 1), (2, 94, .ref 3, 138, 1), (2, 95, .ref 2, 53, 2), (2, 98, .ref 3, 141, 2), (2, 99, .ref 2, 54, 2), (2, 102, .ref 3, 142, 2), (2, 103, .ref 2, 55, 2), (2, 106, .ref 3, 144, 2), (2, 107, .ref 2, 56, 2), (2, 110, .ref 3, 146, 2), (2, 111, .ref 2, 57, 3), (2, 114, .ref 3, 147, 3), (2, 115, .ref 2, 58, 1), (2, 118, .ref 3, 148, 1), (2, 119, .ref 2, 59, 3), (2, 122, .ref 3, 149, 3), (2, 123, .ref 2, 60, 6), (2, 127, .ref 3, 150, 6), (2, 128, .ref 2, 61, 4), (2, 131, .ref 3, 151, 4), (2, 132, .ref 2, 62, 2), (2, 135, .ref 3, 152, 2), (2, 136, .ref 2, 63, 2), (2, 139, .ref 3, 153, 2), (2, 140, .ref 2, 64, 2), (2, 143, .ref 3, 154, 2)]
theorem kk_6_0 : px_okK px_T 6 (1, 7, .null, 2, 0) := by
  exact ⟨by decide, w_8, w_9, w_1⟩
theorem kk_6_1 : px_okK px_T 6 (4, 9, .null, 33, 1) := by
  exact ⟨mX2_init, rfl, rfl, by decide, np_X2_init, rfl, w_11, (Or.inl w_10)⟩
theorem kk_6_2 : px_okK px_T 6 (1, 10, .null, 3, 0) := by
  exact ⟨by decide, w_500, w_501, w_4⟩
theorem kk_6_3 : px_okK px_T 6 (4, 12, .null, 94, 1) := by
  exact ⟨mX3_init, rfl, rfl, by decide, np_X3_init, rfl, w_503, (Or.inl w_502)⟩
theorem kk_6_4 : px_okK px_T 6 (2, 13, .ref 2, 34, 5) := by
  exact ⟨mX2_part, rfl, rfl, by decide, by decide, np_X2_part, w_125, w_126, (Or.inl w_124)⟩
theorem kk_6_5 : px_okK px_T 6 (2, 17, .ref 3, 100, 5) := by
  exact ⟨mX3_part, rfl, rfl, by decide, by decide, np_X3_part, w_587, w_588, (Or.inl w_586)⟩
theorem kk_6_6 : px_okK px_T 6 (2, 18, .ref 2, 35, 3) := by
  exact ⟨mX2_needs, rfl, rfl, by decide, by decide, np_X2_needs, w_147, w_148, (Or.inl w_146)⟩
theorem kk_6_7 : px_okK px_T 6 (2, 22, .ref 3, 101, 3) := by
  exact ⟨mX3_needs, rfl, rfl, by decide, by decide, np_X3_needs, w_604, w_605, (Or.inl w_603)⟩
theorem kk_6_8 : px_okK px_T 6 (2, 23, .ref 2, 36, 2) := by
  exact ⟨mX2_say, rfl, rfl, by decide, by decide, np_X2_say, w_151, w_152, (Or.inl w_150)⟩
theorem kk_6_9 : px_okK px_T 6 (2, 27, .ref 3, 102, 2) := by
  exact ⟨mX3_say, rfl, rfl, by decide, by decide, np_X3_say, w_608, w_609, (Or.inl w_607)⟩
theorem kk_6_10 : px_okK px_T 6 (2, 28, .ref 2, 37, 1) := by
  exact ⟨mX2_wipe, rfl, rfl, by decide, by decide, np_X2_wipe, w_159, w_160, (Or.inl w_158)⟩
theorem kk_6_11 : px_okK px_T 6 (2, 32, .ref 3, 103, 1) := by
  exact ⟨mX3_wipe, rfl, rfl, by decide, by decide, np_X3_wipe, w_612, w_613, (Or.inl w_611)⟩
theorem kk_6_12 : px_okK px_T 6 (2, 33, .ref 2, 38, 1) := by
  exact ⟨mX2_fault, rfl, rfl, by decide, by decide, np_X2_fault, w_163, w_164, (Or.inl w_162)⟩
theorem kk_6_13 : px_okK px_T 6 (2, 36, .ref 3, 106, 1) := by
  exact ⟨mX3_fault, rfl, rfl, by decide, by decide, np_X3_fault, w_616, w_617, (Or.inl w_615)⟩
theorem kk_6_14 : px_okK px_T 6 (2, 37, .ref 2, 39, 2) := by
  exact ⟨mX2_judge, rfl, rfl, by decide, by decide, np_X2_judge, w_178, w_179, (Or.inl w_177)⟩
theorem kk_6_15 : px_okK px_T 6 (2, 40, .ref 3, 118, 2) := by
  exact ⟨mX3_judge, rfl, rfl, by decide, by decide, np_X3_judge, w_627, w_628, (Or.inl w_626)⟩
theorem kk_6_16 : px_okK px_T 6 (2, 41, .ref 2, 40, 1) := by
  exact ⟨mX2_done, rfl, rfl, by decide, by decide, np_X2_done, w_249, w_250, (Or.inl w_248)⟩
theorem kk_6_17 : px_okK px_T 6 (2, 44, .ref 3, 120, 1) := by
  exact ⟨mX3_done, rfl, rfl, by decide, by decide, np_X3_done, w_671, w_672, (Or.inl w_670)⟩
theorem kk_6_18 : px_okK px_T 6 (2, 45, .ref 2, 41, 2) := by
  exact ⟨mX2_state, rfl, rfl, by decide, by decide, np_X2_state, w_253, w_254, (Or.inl w_252)⟩
theorem kk_6_19 : px_okK px_T 6 (2, 48, .ref 3, 122, 2) := by
  exact ⟨mX3_state, rfl, rfl, by decide, by decide, np_X3_state, w_679, w_680, (Or.inl w_678)⟩
theorem kk_6_20 : px_okK px_T 6 (2, 49, .ref 2, 42, 2) := by
  exact ⟨mX2_behind, rfl, rfl, by decide, by decide, np_X2_behind, w_261, w_262, (Or.inl w_260)⟩
theorem kk_6_21 : px_okK px_T 6 (2, 52, .ref 3, 123, 2) := by
  exact ⟨mX3_behind, rfl, rfl, by decide, by decide, np_X3_behind, w_687, w_688, (Or.inl w_686)⟩
theorem kk_6_22 : px_okK px_T 6 (2, 53, .ref 2, 43, 1) := by
  exact ⟨mX2_can, rfl, rfl, by decide, by decide, np_X2_can, w_265, w_266, (Or.inl w_264)⟩
theorem kk_6_23 : px_okK px_T 6 (2, 56, .ref 3, 124, 1) := by
  exact ⟨mX3_can, rfl, rfl, by decide, by decide, np_X3_can, w_691, w_692, (Or.inl w_690)⟩
theorem kk_6_24 : px_okK px_T 6 (2, 57, .ref 2, 44, 3) := by
  exact ⟨mX2_lacks, rfl, rfl, by decide, by decide, np_X2_lacks, w_270, w_271, (Or.inl w_269)⟩
theorem kk_6_25 : px_okK px_T 6 (2, 60, .ref 3, 128, 3) := by
  exact ⟨mX3_lacks, rfl, rfl, by decide, by decide, np_X3_lacks, w_695, w_696, (Or.inl w_694)⟩
theorem kk_6_26 : px_okK px_T 6 (2, 61, .ref 2, 45, 4) := by
  exact ⟨mX2_plan, rfl, rfl, by decide, by decide, np_X2_plan, w_297, w_298, (Or.inl w_296)⟩
theorem kk_6_27 : px_okK px_T 6 (2, 65, .ref 3, 129, 4) := by
  exact ⟨mX3_plan, rfl, rfl, by decide, by decide, np_X3_plan, w_715, w_716, (Or.inl w_714)⟩
theorem kk_6_28 : px_okK px_T 6 (2, 66, .ref 2, 46, 1) := by
  exact ⟨mX2_orders, rfl, rfl, by decide, by decide, np_X2_orders, w_301, w_302, (Or.inl w_300)⟩
theorem kk_6_29 : px_okK px_T 6 (2, 69, .ref 3, 130, 1) := by
  exact ⟨mX3_orders, rfl, rfl, by decide, by decide, np_X3_orders, w_719, w_720, (Or.inl w_718)⟩
theorem kk_6_30 : px_okK px_T 6 (2, 70, .ref 2, 47, 3) := by
  exact ⟨mX2_bar, rfl, rfl, by decide, by decide, np_X2_bar, w_313, w_314, (Or.inl w_312)⟩
theorem kk_6_31 : px_okK px_T 6 (2, 73, .ref 3, 132, 3) := by
  exact ⟨mX3_bar, rfl, rfl, by decide, by decide, np_X3_bar, w_723, w_724, (Or.inl w_722)⟩
theorem kk_6_32 : px_okK px_T 6 (2, 74, .ref 2, 48, 3) := by
  exact ⟨mX2_falls, rfl, rfl, by decide, by decide, np_X2_falls, w_333, w_334, (Or.inl w_332)⟩
theorem kk_6_33 : px_okK px_T 6 (2, 77, .ref 3, 133, 3) := by
  exact ⟨mX3_falls, rfl, rfl, by decide, by decide, np_X3_falls, w_734, w_735, (Or.inl w_733)⟩
theorem kk_6_34 : px_okK px_T 6 (2, 78, .ref 2, 49, 2) := by
  exact ⟨mX2_alone, rfl, rfl, by decide, by decide, np_X2_alone, w_341, w_342, (Or.inl w_340)⟩
theorem kk_6_35 : px_okK px_T 6 (2, 81, .ref 3, 135, 2) := by
  exact ⟨mX3_alone, rfl, rfl, by decide, by decide, np_X3_alone, w_738, w_739, (Or.inl w_737)⟩
theorem kk_6_36 : px_okK px_T 6 (2, 82, .ref 2, 50, 3) := by
  exact ⟨mX2_guard, rfl, rfl, by decide, by decide, np_X2_guard, w_349, w_350, (Or.inl w_348)⟩
theorem kk_6_37 : px_okK px_T 6 (2, 85, .ref 3, 136, 3) := by
  exact ⟨mX3_guard, rfl, rfl, by decide, by decide, np_X3_guard, w_746, w_747, (Or.inl w_745)⟩
theorem kk_6_38 : px_okK px_T 6 (2, 86, .ref 2, 51, 4) := by
  exact ⟨mX2_seen, rfl, rfl, by decide, by decide, np_X2_seen, w_357, w_358, (Or.inl w_356)⟩
theorem kk_6_39 : px_okK px_T 6 (2, 90, .ref 3, 137, 4) := by
  exact ⟨mX3_seen, rfl, rfl, by decide, by decide, np_X3_seen, w_750, w_751, (Or.inl w_749)⟩
theorem kk_6_40 : px_okK px_T 6 (2, 91, .ref 2, 52, 1) := by
  exact ⟨mX2_forget, rfl, rfl, by decide, by decide, np_X2_forget, w_365, w_366, (Or.inl w_364)⟩
theorem kk_6_41 : px_okK px_T 6 (2, 94, .ref 3, 138, 1) := by
  exact ⟨mX3_forget, rfl, rfl, by decide, by decide, np_X3_forget, w_754, w_755, (Or.inl w_753)⟩
theorem kk_6_42 : px_okK px_T 6 (2, 95, .ref 2, 53, 2) := by
  exact ⟨mX2_hidden, rfl, rfl, by decide, by decide, np_X2_hidden, w_369, w_370, (Or.inl w_368)⟩
theorem kk_6_43 : px_okK px_T 6 (2, 98, .ref 3, 141, 2) := by
  exact ⟨mX3_hidden, rfl, rfl, by decide, by decide, np_X3_hidden, w_758, w_759, (Or.inl w_757)⟩
theorem kk_6_44 : px_okK px_T 6 (2, 99, .ref 2, 54, 2) := by
  exact ⟨mX2_tries, rfl, rfl, by decide, by decide, np_X2_tries, w_405, w_406, (Or.inl w_404)⟩
theorem kk_6_45 : px_okK px_T 6 (2, 102, .ref 3, 142, 2) := by
  exact ⟨mX3_tries, rfl, rfl, by decide, by decide, np_X3_tries, w_770, w_771, (Or.inl w_769)⟩
theorem kk_6_46 : px_okK px_T 6 (2, 103, .ref 2, 55, 2) := by
  exact ⟨mX2_send, rfl, rfl, by decide, by decide, np_X2_send, w_416, w_417, (Or.inl w_415)⟩
theorem kk_6_47 : px_okK px_T 6 (2, 106, .ref 3, 144, 2) := by
  exact ⟨mX3_send, rfl, rfl, by decide, by decide, np_X3_send, w_775, w_776, (Or.inl w_774)⟩
theorem kk_6_48 : px_okK px_T 6 (2, 107, .ref 2, 56, 2) := by
  exact ⟨mX2_makes, rfl, rfl, by decide, by decide, np_X2_makes, w_423, w_424, (Or.inl w_422)⟩
theorem kk_6_49 : px_okK px_T 6 (2, 110, .ref 3, 146, 2) := by
  exact ⟨mX3_makes, rfl, rfl, by decide, by decide, np_X3_makes, w_782, w_783, (Or.inl w_781)⟩
theorem kk_6_50 : px_okK px_T 6 (2, 111, .ref 2, 57, 3) := by
  exact ⟨mX2_quarrel, rfl, rfl, by decide, by decide, np_X2_quarrel, w_427, w_428, (Or.inl w_426)⟩
theorem kk_6_51 : px_okK px_T 6 (2, 114, .ref 3, 147, 3) := by
  exact ⟨mX3_quarrel, rfl, rfl, by decide, by decide, np_X3_quarrel, w_790, w_791, (Or.inl w_789)⟩
theorem kk_6_52 : px_okK px_T 6 (2, 115, .ref 2, 58, 1) := by
  exact ⟨mX2_sent, rfl, rfl, by decide, by decide, np_X2_sent, w_431, w_432, (Or.inl w_430)⟩
theorem kk_6_53 : px_okK px_T 6 (2, 118, .ref 3, 148, 1) := by
  exact ⟨mX3_sent, rfl, rfl, by decide, by decide, np_X3_sent, w_794, w_795, (Or.inl w_793)⟩
theorem kk_6_54 : px_okK px_T 6 (2, 119, .ref 2, 59, 3) := by
  exact ⟨mX2_turns, rfl, rfl, by decide, by decide, np_X2_turns, w_435, w_436, (Or.inl w_434)⟩
theorem kk_6_55 : px_okK px_T 6 (2, 122, .ref 3, 149, 3) := by
  exact ⟨mX3_turns, rfl, rfl, by decide, by decide, np_X3_turns, w_798, w_799, (Or.inl w_797)⟩
theorem kk_6_56 : px_okK px_T 6 (2, 123, .ref 2, 60, 6) := by
  exact ⟨mX2_fever, rfl, rfl, by decide, by decide, np_X2_fever, w_447, w_448, (Or.inl w_446)⟩
theorem kk_6_57 : px_okK px_T 6 (2, 127, .ref 3, 150, 6) := by
  exact ⟨mX3_fever, rfl, rfl, by decide, by decide, np_X3_fever, w_802, w_803, (Or.inl w_801)⟩
theorem kk_6_58 : px_okK px_T 6 (2, 128, .ref 2, 61, 4) := by
  exact ⟨mX2_year, rfl, rfl, by decide, by decide, np_X2_year, w_477, w_478, (Or.inl w_476)⟩
theorem kk_6_59 : px_okK px_T 6 (2, 131, .ref 3, 151, 4) := by
  exact ⟨mX3_year, rfl, rfl, by decide, by decide, np_X3_year, w_809, w_810, (Or.inl w_808)⟩
theorem kk_6_60 : px_okK px_T 6 (2, 132, .ref 2, 62, 2) := by
  exact ⟨mX2_image, rfl, rfl, by decide, by decide, np_X2_image, w_485, w_486, (Or.inl w_484)⟩
theorem kk_6_61 : px_okK px_T 6 (2, 135, .ref 3, 152, 2) := by
  exact ⟨mX3_image, rfl, rfl, by decide, by decide, np_X3_image, w_814, w_815, (Or.inl w_813)⟩
theorem kk_6_62 : px_okK px_T 6 (2, 136, .ref 2, 63, 2) := by
  exact ⟨mX2_restore, rfl, rfl, by decide, by decide, np_X2_restore, w_489, w_490, (Or.inl w_488)⟩
theorem kk_6_63 : px_okK px_T 6 (2, 139, .ref 3, 153, 2) := by
  exact ⟨mX3_restore, rfl, rfl, by decide, by decide, np_X3_restore, w_818, w_819, (Or.inl w_817)⟩
theorem kk_6_64 : px_okK px_T 6 (2, 140, .ref 2, 64, 2) := by
  exact ⟨mX2_told, rfl, rfl, by decide, by decide, np_X2_told, w_493, w_494, (Or.inl w_492)⟩
theorem kk_6_65 : px_okK px_T 6 (2, 143, .ref 3, 154, 2) := by
  exact ⟨mX3_told, rfl, rfl, by decide, by decide, np_X3_told, w_822, w_823, (Or.inl w_821)⟩
theorem kl_6 : ∀ q ∈ px_K6, px_okK px_T 6 q := by
  intro q hq
  simp only [px_K6, List.mem_cons, List.not_mem_nil, or_false] at hq
  rcases hq with rfl | rfl | rfl | rfl | rfl | rfl | rfl | rfl | rfl | rfl | rfl | rfl | rfl | rfl | rfl | rfl | rfl | rfl | rfl | rfl | rfl | rfl | rfl | rfl | rfl | rfl | rfl | rfl | rfl | rfl | rfl | rfl | rfl | rfl | rfl | rfl | rfl | rfl | rfl | rfl | rfl | rfl | rfl | rfl | rfl | rfl | rfl | rfl | rfl | rfl | rfl | rfl | rfl | rfl | rfl | rfl | rfl | rfl | rfl | rfl | rfl | rfl | rfl | rfl | rfl | rfl
  · exact kk_6_0
  · exact kk_6_1
  · exact kk_6_2
  · exact kk_6_3
  · exact kk_6_4
  · exact kk_6_5
  · exact kk_6_6
  · exact kk_6_7
  · exact kk_6_8
  · exact kk_6_9
  · exact kk_6_10
  · exact kk_6_11
  · exact kk_6_12
  · exact kk_6_13
  · exact kk_6_14
  · exact kk_6_15
  · exact kk_6_16
  · exact kk_6_17
  · exact kk_6_18
  · exact kk_6_19
  · exact kk_6_20
  · exact kk_6_21
  · exact kk_6_22
  · exact kk_6_23
  · exact kk_6_24
  · exact kk_6_25
  · exact kk_6_26
  · exact kk_6_27
  · exact kk_6_28
  · exact kk_6_29
  · exact kk_6_30
  · exact kk_6_31
  · exact kk_6_32
  · exact kk_6_33
  · exact kk_6_34
  · exact kk_6_35
  · exact kk_6_36
  · exact kk_6_37
  · exact kk_6_38
  · exact kk_6_39
  · exact kk_6_40
  · exact kk_6_41
  · exact kk_6_42
  · exact kk_6_43
  · exact kk_6_44
  · exact kk_6_45
  · exact kk_6_46
  · exact kk_6_47
  · exact kk_6_48
  · exact kk_6_49
  · exact kk_6_50
  · exact kk_6_51
  · exact kk_6_52
  · exact kk_6_53
  · exact kk_6_54
  · exact kk_6_55
  · exact kk_6_56
  · exact kk_6_57
  · exact kk_6_58
  · exact kk_6_59
  · exact kk_6_60
  · exact kk_6_61
  · exact kk_6_62
  · exact kk_6_63
  · exact kk_6_64
  · exact kk_6_65
