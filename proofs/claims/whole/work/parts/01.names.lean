-- ===== PART A: goes FIRST, ahead of the names: the tables' words, and 'selects' of the private methods out of them =====
/-- a private method of a class that the tables say can be made, by its rows of tables_1 -/
def lw_okq (q : MethodName × Nat) : Prop := (q.1.cls ≠ "java/lang/invoke/MethodHandle" ∧ q.1.cls ≠ "java/lang/invoke/VarHandle") ∧ Cond.instantiable q.1.cls q.2 ∈ tables_1 ∧ Cond.privateMethod q.1 ∈ tables_1 ∧ Cond.instanceMethod q.1 ∈ tables_1
theorem lw_p0 : lw_okq (⟨"PortraitRule$Realm", "withAllAbove", "(I)I"⟩, 15) := ⟨⟨by decide +kernel, by decide +kernel⟩, List.mem_of_getElem? (i := 17) (by decide +kernel), List.mem_of_getElem? (i := 135) (by decide +kernel), List.mem_of_getElem? (i := 136) (by decide +kernel)⟩
theorem lw_p1 : lw_okq (⟨"PortraitRule$Realm", "fallingWith", "(I)I"⟩, 15) := ⟨⟨by decide +kernel, by decide +kernel⟩, List.mem_of_getElem? (i := 17) (by decide +kernel), List.mem_of_getElem? (i := 139) (by decide +kernel), List.mem_of_getElem? (i := 140) (by decide +kernel)⟩
theorem lw_p2 : lw_okq (⟨"PortraitRule$Realm", "unpaint", "(I)V"⟩, 15) := ⟨⟨by decide +kernel, by decide +kernel⟩, List.mem_of_getElem? (i := 17) (by decide +kernel), List.mem_of_getElem? (i := 143) (by decide +kernel), List.mem_of_getElem? (i := 144) (by decide +kernel)⟩
theorem lw_p3 : lw_okq (⟨"PortraitRule$Pad", "write", "(I)V"⟩, 2) := ⟨⟨by decide +kernel, by decide +kernel⟩, List.mem_of_getElem? (i := 80) (by decide +kernel), List.mem_of_getElem? (i := 155) (by decide +kernel), List.mem_of_getElem? (i := 156) (by decide +kernel)⟩
theorem lw_p4 : lw_okq (⟨"PortraitRule$Pad", "firstFault", "()I"⟩, 2) := ⟨⟨by decide +kernel, by decide +kernel⟩, List.mem_of_getElem? (i := 80) (by decide +kernel), List.mem_of_getElem? (i := 167) (by decide +kernel), List.mem_of_getElem? (i := 168) (by decide +kernel)⟩
theorem lw_p5 : lw_okq (⟨"PortraitRule$Pad", "signAt", "(I)I"⟩, 2) := ⟨⟨by decide +kernel, by decide +kernel⟩, List.mem_of_getElem? (i := 80) (by decide +kernel), List.mem_of_getElem? (i := 171) (by decide +kernel), List.mem_of_getElem? (i := 172) (by decide +kernel)⟩
theorem lw_p6 : lw_okq (⟨"PortraitRule", "tryReign", "()V"⟩, 10) := ⟨⟨by decide +kernel, by decide +kernel⟩, List.mem_of_getElem? (i := 9) (by decide +kernel), List.mem_of_getElem? (i := 185) (by decide +kernel), List.mem_of_getElem? (i := 186) (by decide +kernel)⟩
theorem lw_p7 : lw_okq (⟨"PortraitRule$Realm", "copyFrom", "(LPortraitRule$Realm;)V"⟩, 15) := ⟨⟨by decide +kernel, by decide +kernel⟩, List.mem_of_getElem? (i := 17) (by decide +kernel), List.mem_of_getElem? (i := 189) (by decide +kernel), List.mem_of_getElem? (i := 190) (by decide +kernel)⟩
theorem lw_p8 : lw_okq (⟨"PortraitRule$Realm", "takeIfItCanBe", "(II)I"⟩, 15) := ⟨⟨by decide +kernel, by decide +kernel⟩, List.mem_of_getElem? (i := 17) (by decide +kernel), List.mem_of_getElem? (i := 201) (by decide +kernel), List.mem_of_getElem? (i := 202) (by decide +kernel)⟩
theorem lw_p9 : lw_okq (⟨"PortraitRule$Realm", "whyNot", "(II)I"⟩, 15) := ⟨⟨by decide +kernel, by decide +kernel⟩, List.mem_of_getElem? (i := 17) (by decide +kernel), List.mem_of_getElem? (i := 205) (by decide +kernel), List.mem_of_getElem? (i := 206) (by decide +kernel)⟩
theorem lw_p10 : lw_okq (⟨"PortraitRule$Realm", "whyNotPaint", "(I)I"⟩, 15) := ⟨⟨by decide +kernel, by decide +kernel⟩, List.mem_of_getElem? (i := 17) (by decide +kernel), List.mem_of_getElem? (i := 209) (by decide +kernel), List.mem_of_getElem? (i := 210) (by decide +kernel)⟩
theorem lw_p11 : lw_okq (⟨"PortraitRule$Realm", "doneParts", "()I"⟩, 15) := ⟨⟨by decide +kernel, by decide +kernel⟩, List.mem_of_getElem? (i := 17) (by decide +kernel), List.mem_of_getElem? (i := 213) (by decide +kernel), List.mem_of_getElem? (i := 214) (by decide +kernel)⟩
theorem lw_p12 : lw_okq (⟨"PortraitRule$Realm", "whyNotMake", "(I)I"⟩, 15) := ⟨⟨by decide +kernel, by decide +kernel⟩, List.mem_of_getElem? (i := 17) (by decide +kernel), List.mem_of_getElem? (i := 217) (by decide +kernel), List.mem_of_getElem? (i := 218) (by decide +kernel)⟩
theorem lw_p13 : lw_okq (⟨"PortraitRule$Realm", "powersThereAre", "()I"⟩, 15) := ⟨⟨by decide +kernel, by decide +kernel⟩, List.mem_of_getElem? (i := 17) (by decide +kernel), List.mem_of_getElem? (i := 221) (by decide +kernel), List.mem_of_getElem? (i := 222) (by decide +kernel)⟩
theorem lw_p14 : lw_okq (⟨"PortraitRule$Realm", "powersOf", "(I)I"⟩, 15) := ⟨⟨by decide +kernel, by decide +kernel⟩, List.mem_of_getElem? (i := 17) (by decide +kernel), List.mem_of_getElem? (i := 225) (by decide +kernel), List.mem_of_getElem? (i := 226) (by decide +kernel)⟩
theorem lw_p15 : lw_okq (⟨"PortraitRule$Realm", "paint", "(I)V"⟩, 15) := ⟨⟨by decide +kernel, by decide +kernel⟩, List.mem_of_getElem? (i := 17) (by decide +kernel), List.mem_of_getElem? (i := 229) (by decide +kernel), List.mem_of_getElem? (i := 230) (by decide +kernel)⟩
def lw_privs_1 : List (MethodName × Nat) := [(⟨"PortraitRule$Realm", "withAllAbove", "(I)I"⟩, 15), (⟨"PortraitRule$Realm", "fallingWith", "(I)I"⟩, 15), (⟨"PortraitRule$Realm", "unpaint", "(I)V"⟩, 15), (⟨"PortraitRule$Pad", "write", "(I)V"⟩, 2), (⟨"PortraitRule$Pad", "firstFault", "()I"⟩, 2), (⟨"PortraitRule$Pad", "signAt", "(I)I"⟩, 2), (⟨"PortraitRule", "tryReign", "()V"⟩, 10), (⟨"PortraitRule$Realm", "copyFrom", "(LPortraitRule$Realm;)V"⟩, 15), (⟨"PortraitRule$Realm", "takeIfItCanBe", "(II)I"⟩, 15), (⟨"PortraitRule$Realm", "whyNot", "(II)I"⟩, 15), (⟨"PortraitRule$Realm", "whyNotPaint", "(I)I"⟩, 15), (⟨"PortraitRule$Realm", "doneParts", "()I"⟩, 15), (⟨"PortraitRule$Realm", "whyNotMake", "(I)I"⟩, 15), (⟨"PortraitRule$Realm", "powersThereAre", "()I"⟩, 15), (⟨"PortraitRule$Realm", "powersOf", "(I)I"⟩, 15), (⟨"PortraitRule$Realm", "paint", "(I)V"⟩, 15)]
theorem lw_r1 : ∀ q ∈ lw_privs_1, lw_okq q := List.forall_mem_cons.mpr ⟨lw_p0, List.forall_mem_cons.mpr ⟨lw_p1, List.forall_mem_cons.mpr ⟨lw_p2, List.forall_mem_cons.mpr ⟨lw_p3, List.forall_mem_cons.mpr ⟨lw_p4, List.forall_mem_cons.mpr ⟨lw_p5, List.forall_mem_cons.mpr ⟨lw_p6, List.forall_mem_cons.mpr ⟨lw_p7, List.forall_mem_cons.mpr ⟨lw_p8, List.forall_mem_cons.mpr ⟨lw_p9, List.forall_mem_cons.mpr ⟨lw_p10, List.forall_mem_cons.mpr ⟨lw_p11, List.forall_mem_cons.mpr ⟨lw_p12, List.forall_mem_cons.mpr ⟨lw_p13, List.forall_mem_cons.mpr ⟨lw_p14, List.forall_mem_cons.mpr ⟨lw_p15, fun _ h => absurd h List.not_mem_nil⟩⟩⟩⟩⟩⟩⟩⟩⟩⟩⟩⟩⟩⟩⟩⟩
theorem lw_p16 : lw_okq (⟨"PortraitRule$Realm", "repeal", "()V"⟩, 15) := ⟨⟨by decide +kernel, by decide +kernel⟩, List.mem_of_getElem? (i := 17) (by decide +kernel), List.mem_of_getElem? (i := 235) (by decide +kernel), List.mem_of_getElem? (i := 236) (by decide +kernel)⟩
theorem lw_p17 : lw_okq (⟨"PortraitRule$Realm", "actsWithin", "(I)I"⟩, 15) := ⟨⟨by decide +kernel, by decide +kernel⟩, List.mem_of_getElem? (i := 17) (by decide +kernel), List.mem_of_getElem? (i := 239) (by decide +kernel), List.mem_of_getElem? (i := 240) (by decide +kernel)⟩
theorem lw_p18 : lw_okq (⟨"PortraitRule$Realm", "tellState", "(I)I"⟩, 15) := ⟨⟨by decide +kernel, by decide +kernel⟩, List.mem_of_getElem? (i := 17) (by decide +kernel), List.mem_of_getElem? (i := 257) (by decide +kernel), List.mem_of_getElem? (i := 258) (by decide +kernel)⟩
theorem lw_p19 : lw_okq (⟨"PortraitRule", "cheapestPlan", "(II)I"⟩, 10) := ⟨⟨by decide +kernel, by decide +kernel⟩, List.mem_of_getElem? (i := 9) (by decide +kernel), List.mem_of_getElem? (i := 274) (by decide +kernel), List.mem_of_getElem? (i := 275) (by decide +kernel)⟩
theorem lw_p20 : lw_okq (⟨"PortraitRule$Realm", "isPicture", "(I)Z"⟩, 15) := ⟨⟨by decide +kernel, by decide +kernel⟩, List.mem_of_getElem? (i := 17) (by decide +kernel), List.mem_of_getElem? (i := 279) (by decide +kernel), List.mem_of_getElem? (i := 280) (by decide +kernel)⟩
theorem lw_p21 : lw_okq (⟨"PortraitRule", "fitsPlan", "(III)Z"⟩, 10) := ⟨⟨by decide +kernel, by decide +kernel⟩, List.mem_of_getElem? (i := 9) (by decide +kernel), List.mem_of_getElem? (i := 283) (by decide +kernel), List.mem_of_getElem? (i := 284) (by decide +kernel)⟩
theorem lw_p22 : lw_okq (⟨"PortraitRule$Realm", "hoursToPaint", "(I)I"⟩, 15) := ⟨⟨by decide +kernel, by decide +kernel⟩, List.mem_of_getElem? (i := 17) (by decide +kernel), List.mem_of_getElem? (i := 289) (by decide +kernel), List.mem_of_getElem? (i := 290) (by decide +kernel)⟩
theorem lw_p23 : lw_okq (⟨"PortraitRule", "tellPlan", "(II)I"⟩, 10) := ⟨⟨by decide +kernel, by decide +kernel⟩, List.mem_of_getElem? (i := 9) (by decide +kernel), List.mem_of_getElem? (i := 293) (by decide +kernel), List.mem_of_getElem? (i := 294) (by decide +kernel)⟩
theorem lw_p24 : lw_okq (⟨"PortraitRule", "clearBySet", "()V"⟩, 10) := ⟨⟨by decide +kernel, by decide +kernel⟩, List.mem_of_getElem? (i := 9) (by decide +kernel), List.mem_of_getElem? (i := 305) (by decide +kernel), List.mem_of_getElem? (i := 306) (by decide +kernel)⟩
theorem lw_p25 : lw_okq (⟨"PortraitRule$Realm", "canFinish", "(II)Z"⟩, 15) := ⟨⟨by decide +kernel, by decide +kernel⟩, List.mem_of_getElem? (i := 17) (by decide +kernel), List.mem_of_getElem? (i := 309) (by decide +kernel), List.mem_of_getElem? (i := 310) (by decide +kernel)⟩
theorem lw_p26 : lw_okq (⟨"PortraitRule", "fewestToBar", "(I)I"⟩, 10) := ⟨⟨by decide +kernel, by decide +kernel⟩, List.mem_of_getElem? (i := 9) (by decide +kernel), List.mem_of_getElem? (i := 317) (by decide +kernel), List.mem_of_getElem? (i := 318) (by decide +kernel)⟩
theorem lw_p27 : lw_okq (⟨"PortraitRule$Realm", "givesAll", "(II)Z"⟩, 15) := ⟨⟨by decide +kernel, by decide +kernel⟩, List.mem_of_getElem? (i := 17) (by decide +kernel), List.mem_of_getElem? (i := 321) (by decide +kernel), List.mem_of_getElem? (i := 322) (by decide +kernel)⟩
theorem lw_p28 : lw_okq (⟨"PortraitRule$Realm", "paintedParts", "()I"⟩, 15) := ⟨⟨by decide +kernel, by decide +kernel⟩, List.mem_of_getElem? (i := 17) (by decide +kernel), List.mem_of_getElem? (i := 337) (by decide +kernel), List.mem_of_getElem? (i := 338) (by decide +kernel)⟩
theorem lw_p29 : lw_okq (⟨"PortraitRule$Realm", "partsThatGive", "(I)I"⟩, 15) := ⟨⟨by decide +kernel, by decide +kernel⟩, List.mem_of_getElem? (i := 17) (by decide +kernel), List.mem_of_getElem? (i := 345) (by decide +kernel), List.mem_of_getElem? (i := 346) (by decide +kernel)⟩
theorem lw_p30 : lw_okq (⟨"PortraitRule", "fewestToGuard", "(I)I"⟩, 10) := ⟨⟨by decide +kernel, by decide +kernel⟩, List.mem_of_getElem? (i := 9) (by decide +kernel), List.mem_of_getElem? (i := 353) (by decide +kernel), List.mem_of_getElem? (i := 354) (by decide +kernel)⟩
theorem lw_p31 : lw_okq (⟨"PortraitRule$Realm", "addSight", "(IIZ)V"⟩, 15) := ⟨⟨by decide +kernel, by decide +kernel⟩, List.mem_of_getElem? (i := 17) (by decide +kernel), List.mem_of_getElem? (i := 361) (by decide +kernel), List.mem_of_getElem? (i := 362) (by decide +kernel)⟩
def lw_privs_2 : List (MethodName × Nat) := [(⟨"PortraitRule$Realm", "repeal", "()V"⟩, 15), (⟨"PortraitRule$Realm", "actsWithin", "(I)I"⟩, 15), (⟨"PortraitRule$Realm", "tellState", "(I)I"⟩, 15), (⟨"PortraitRule", "cheapestPlan", "(II)I"⟩, 10), (⟨"PortraitRule$Realm", "isPicture", "(I)Z"⟩, 15), (⟨"PortraitRule", "fitsPlan", "(III)Z"⟩, 10), (⟨"PortraitRule$Realm", "hoursToPaint", "(I)I"⟩, 15), (⟨"PortraitRule", "tellPlan", "(II)I"⟩, 10), (⟨"PortraitRule", "clearBySet", "()V"⟩, 10), (⟨"PortraitRule$Realm", "canFinish", "(II)Z"⟩, 15), (⟨"PortraitRule", "fewestToBar", "(I)I"⟩, 10), (⟨"PortraitRule$Realm", "givesAll", "(II)Z"⟩, 15), (⟨"PortraitRule$Realm", "paintedParts", "()I"⟩, 15), (⟨"PortraitRule$Realm", "partsThatGive", "(I)I"⟩, 15), (⟨"PortraitRule", "fewestToGuard", "(I)I"⟩, 10), (⟨"PortraitRule$Realm", "addSight", "(IIZ)V"⟩, 15)]
theorem lw_r2 : ∀ q ∈ lw_privs_2, lw_okq q := List.forall_mem_cons.mpr ⟨lw_p16, List.forall_mem_cons.mpr ⟨lw_p17, List.forall_mem_cons.mpr ⟨lw_p18, List.forall_mem_cons.mpr ⟨lw_p19, List.forall_mem_cons.mpr ⟨lw_p20, List.forall_mem_cons.mpr ⟨lw_p21, List.forall_mem_cons.mpr ⟨lw_p22, List.forall_mem_cons.mpr ⟨lw_p23, List.forall_mem_cons.mpr ⟨lw_p24, List.forall_mem_cons.mpr ⟨lw_p25, List.forall_mem_cons.mpr ⟨lw_p26, List.forall_mem_cons.mpr ⟨lw_p27, List.forall_mem_cons.mpr ⟨lw_p28, List.forall_mem_cons.mpr ⟨lw_p29, List.forall_mem_cons.mpr ⟨lw_p30, List.forall_mem_cons.mpr ⟨lw_p31, fun _ h => absurd h List.not_mem_nil⟩⟩⟩⟩⟩⟩⟩⟩⟩⟩⟩⟩⟩⟩⟩⟩
theorem lw_p32 : lw_okq (⟨"PortraitRule", "findHidden", "()V"⟩, 10) := ⟨⟨by decide +kernel, by decide +kernel⟩, List.mem_of_getElem? (i := 9) (by decide +kernel), List.mem_of_getElem? (i := 373) (by decide +kernel), List.mem_of_getElem? (i := 374) (by decide +kernel)⟩
theorem lw_p33 : lw_okq (⟨"PortraitRule$Realm", "nextSightStep", "(I)I"⟩, 15) := ⟨⟨by decide +kernel, by decide +kernel⟩, List.mem_of_getElem? (i := 17) (by decide +kernel), List.mem_of_getElem? (i := 377) (by decide +kernel), List.mem_of_getElem? (i := 378) (by decide +kernel)⟩
theorem lw_p34 : lw_okq (⟨"PortraitRule", "markAllWithMore", "()V"⟩, 10) := ⟨⟨by decide +kernel, by decide +kernel⟩, List.mem_of_getElem? (i := 9) (by decide +kernel), List.mem_of_getElem? (i := 381) (by decide +kernel), List.mem_of_getElem? (i := 382) (by decide +kernel)⟩
theorem lw_p35 : lw_okq (⟨"PortraitRule", "keepThoseSeenAt", "(I)V"⟩, 10) := ⟨⟨by decide +kernel, by decide +kernel⟩, List.mem_of_getElem? (i := 9) (by decide +kernel), List.mem_of_getElem? (i := 385) (by decide +kernel), List.mem_of_getElem? (i := 386) (by decide +kernel)⟩
theorem lw_p36 : lw_okq (⟨"PortraitRule$Realm", "fitsSightsAt", "(II)Z"⟩, 15) := ⟨⟨by decide +kernel, by decide +kernel⟩, List.mem_of_getElem? (i := 17) (by decide +kernel), List.mem_of_getElem? (i := 389) (by decide +kernel), List.mem_of_getElem? (i := 390) (by decide +kernel)⟩
theorem lw_p37 : lw_okq (⟨"PortraitRule", "countHidden", "()I"⟩, 10) := ⟨⟨by decide +kernel, by decide +kernel⟩, List.mem_of_getElem? (i := 9) (by decide +kernel), List.mem_of_getElem? (i := 393) (by decide +kernel), List.mem_of_getElem? (i := 394) (by decide +kernel)⟩
theorem lw_p38 : lw_okq (⟨"PortraitRule", "partsInAllHidden", "()I"⟩, 10) := ⟨⟨by decide +kernel, by decide +kernel⟩, List.mem_of_getElem? (i := 9) (by decide +kernel), List.mem_of_getElem? (i := 397) (by decide +kernel), List.mem_of_getElem? (i := 398) (by decide +kernel)⟩
theorem lw_p39 : lw_okq (⟨"PortraitRule", "partsInSomeHidden", "()I"⟩, 10) := ⟨⟨by decide +kernel, by decide +kernel⟩, List.mem_of_getElem? (i := 9) (by decide +kernel), List.mem_of_getElem? (i := 401) (by decide +kernel), List.mem_of_getElem? (i := 402) (by decide +kernel)⟩
theorem lw_p40 : lw_okq (⟨"PortraitRule", "mostLeftBy", "(II)I"⟩, 10) := ⟨⟨by decide +kernel, by decide +kernel⟩, List.mem_of_getElem? (i := 9) (by decide +kernel), List.mem_of_getElem? (i := 409) (by decide +kernel), List.mem_of_getElem? (i := 410) (by decide +kernel)⟩
theorem lw_p41 : lw_okq (⟨"PortraitRule", "findWinningParts", "(I)V"⟩, 10) := ⟨⟨by decide +kernel, by decide +kernel⟩, List.mem_of_getElem? (i := 9) (by decide +kernel), List.mem_of_getElem? (i := 439) (by decide +kernel), List.mem_of_getElem? (i := 440) (by decide +kernel)⟩
theorem lw_p42 : lw_okq (⟨"PortraitRule", "winningPart", "(II)I"⟩, 10) := ⟨⟨by decide +kernel, by decide +kernel⟩, List.mem_of_getElem? (i := 9) (by decide +kernel), List.mem_of_getElem? (i := 443) (by decide +kernel), List.mem_of_getElem? (i := 444) (by decide +kernel)⟩
theorem lw_p43 : lw_okq (⟨"PortraitRule", "feverChances", "(III)J"⟩, 10) := ⟨⟨by decide +kernel, by decide +kernel⟩, List.mem_of_getElem? (i := 9) (by decide +kernel), List.mem_of_getElem? (i := 453) (by decide +kernel), List.mem_of_getElem? (i := 454) (by decide +kernel)⟩
theorem lw_p44 : lw_okq (⟨"PortraitRule$Realm", "paintLeast", "()V"⟩, 15) := ⟨⟨by decide +kernel, by decide +kernel⟩, List.mem_of_getElem? (i := 17) (by decide +kernel), List.mem_of_getElem? (i := 466) (by decide +kernel), List.mem_of_getElem? (i := 467) (by decide +kernel)⟩
theorem lw_p45 : lw_okq (⟨"PortraitRule", "feverHours", "(II)J"⟩, 10) := ⟨⟨by decide +kernel, by decide +kernel⟩, List.mem_of_getElem? (i := 9) (by decide +kernel), List.mem_of_getElem? (i := 470) (by decide +kernel), List.mem_of_getElem? (i := 471) (by decide +kernel)⟩
theorem lw_p46 : lw_okq (⟨"PortraitRule$Realm", "tellPart", "(II)I"⟩, 15) := ⟨⟨by decide +kernel, by decide +kernel⟩, List.mem_of_getElem? (i := 17) (by decide +kernel), List.mem_of_getElem? (i := 497) (by decide +kernel), List.mem_of_getElem? (i := 498) (by decide +kernel)⟩
theorem lw_p47 : lw_okq (⟨"PortraitRuleModel", "above", "(I)I"⟩, 26) := ⟨⟨by decide +kernel, by decide +kernel⟩, List.mem_of_getElem? (i := 501) (by decide +kernel), List.mem_of_getElem? (i := 597) (by decide +kernel), List.mem_of_getElem? (i := 598) (by decide +kernel)⟩
def lw_privs_3 : List (MethodName × Nat) := [(⟨"PortraitRule", "findHidden", "()V"⟩, 10), (⟨"PortraitRule$Realm", "nextSightStep", "(I)I"⟩, 15), (⟨"PortraitRule", "markAllWithMore", "()V"⟩, 10), (⟨"PortraitRule", "keepThoseSeenAt", "(I)V"⟩, 10), (⟨"PortraitRule$Realm", "fitsSightsAt", "(II)Z"⟩, 15), (⟨"PortraitRule", "countHidden", "()I"⟩, 10), (⟨"PortraitRule", "partsInAllHidden", "()I"⟩, 10), (⟨"PortraitRule", "partsInSomeHidden", "()I"⟩, 10), (⟨"PortraitRule", "mostLeftBy", "(II)I"⟩, 10), (⟨"PortraitRule", "findWinningParts", "(I)V"⟩, 10), (⟨"PortraitRule", "winningPart", "(II)I"⟩, 10), (⟨"PortraitRule", "feverChances", "(III)J"⟩, 10), (⟨"PortraitRule$Realm", "paintLeast", "()V"⟩, 15), (⟨"PortraitRule", "feverHours", "(II)J"⟩, 10), (⟨"PortraitRule$Realm", "tellPart", "(II)I"⟩, 15), (⟨"PortraitRuleModel", "above", "(I)I"⟩, 26)]
theorem lw_r3 : ∀ q ∈ lw_privs_3, lw_okq q := List.forall_mem_cons.mpr ⟨lw_p32, List.forall_mem_cons.mpr ⟨lw_p33, List.forall_mem_cons.mpr ⟨lw_p34, List.forall_mem_cons.mpr ⟨lw_p35, List.forall_mem_cons.mpr ⟨lw_p36, List.forall_mem_cons.mpr ⟨lw_p37, List.forall_mem_cons.mpr ⟨lw_p38, List.forall_mem_cons.mpr ⟨lw_p39, List.forall_mem_cons.mpr ⟨lw_p40, List.forall_mem_cons.mpr ⟨lw_p41, List.forall_mem_cons.mpr ⟨lw_p42, List.forall_mem_cons.mpr ⟨lw_p43, List.forall_mem_cons.mpr ⟨lw_p44, List.forall_mem_cons.mpr ⟨lw_p45, List.forall_mem_cons.mpr ⟨lw_p46, List.forall_mem_cons.mpr ⟨lw_p47, fun _ h => absurd h List.not_mem_nil⟩⟩⟩⟩⟩⟩⟩⟩⟩⟩⟩⟩⟩⟩⟩⟩
theorem lw_p48 : lw_okq (⟨"PortraitRuleModel", "faultOf", "()I"⟩, 26) := ⟨⟨by decide +kernel, by decide +kernel⟩, List.mem_of_getElem? (i := 501) (by decide +kernel), List.mem_of_getElem? (i := 620) (by decide +kernel), List.mem_of_getElem? (i := 621) (by decide +kernel)⟩
theorem lw_p49 : lw_okq (⟨"PortraitRuleModel", "goReign", "()I"⟩, 26) := ⟨⟨by decide +kernel, by decide +kernel⟩, List.mem_of_getElem? (i := 501) (by decide +kernel), List.mem_of_getElem? (i := 631) (by decide +kernel), List.mem_of_getElem? (i := 632) (by decide +kernel)⟩
theorem lw_p50 : lw_okq (⟨"PortraitRuleModel", "asNow", "()V"⟩, 26) := ⟨⟨by decide +kernel, by decide +kernel⟩, List.mem_of_getElem? (i := 501) (by decide +kernel), List.mem_of_getElem? (i := 635) (by decide +kernel), List.mem_of_getElem? (i := 636) (by decide +kernel)⟩
theorem lw_p51 : lw_okq (⟨"PortraitRuleModel", "over", "(I)V"⟩, 26) := ⟨⟨by decide +kernel, by decide +kernel⟩, List.mem_of_getElem? (i := 501) (by decide +kernel), List.mem_of_getElem? (i := 639) (by decide +kernel), List.mem_of_getElem? (i := 640) (by decide +kernel)⟩
theorem lw_p52 : lw_okq (⟨"PortraitRuleModel", "powersNow", "()I"⟩, 26) := ⟨⟨by decide +kernel, by decide +kernel⟩, List.mem_of_getElem? (i := 501) (by decide +kernel), List.mem_of_getElem? (i := 643) (by decide +kernel), List.mem_of_getElem? (i := 644) (by decide +kernel)⟩
theorem lw_p53 : lw_okq (⟨"PortraitRuleModel", "doneNow", "()I"⟩, 26) := ⟨⟨by decide +kernel, by decide +kernel⟩, List.mem_of_getElem? (i := 501) (by decide +kernel), List.mem_of_getElem? (i := 647) (by decide +kernel), List.mem_of_getElem? (i := 648) (by decide +kernel)⟩
theorem lw_p54 : lw_okq (⟨"PortraitRuleModel", "powers", "(I)I"⟩, 26) := ⟨⟨by decide +kernel, by decide +kernel⟩, List.mem_of_getElem? (i := 501) (by decide +kernel), List.mem_of_getElem? (i := 651) (by decide +kernel), List.mem_of_getElem? (i := 652) (by decide +kernel)⟩
theorem lw_p55 : lw_okq (⟨"PortraitRuleModel", "whyNoHour", "(I)I"⟩, 26) := ⟨⟨by decide +kernel, by decide +kernel⟩, List.mem_of_getElem? (i := 501) (by decide +kernel), List.mem_of_getElem? (i := 655) (by decide +kernel), List.mem_of_getElem? (i := 656) (by decide +kernel)⟩
theorem lw_p56 : lw_okq (⟨"PortraitRuleModel", "paint", "(I)V"⟩, 26) := ⟨⟨by decide +kernel, by decide +kernel⟩, List.mem_of_getElem? (i := 501) (by decide +kernel), List.mem_of_getElem? (i := 659) (by decide +kernel), List.mem_of_getElem? (i := 660) (by decide +kernel)⟩
theorem lw_p57 : lw_okq (⟨"PortraitRuleModel", "whyNoAct", "(I)I"⟩, 26) := ⟨⟨by decide +kernel, by decide +kernel⟩, List.mem_of_getElem? (i := 501) (by decide +kernel), List.mem_of_getElem? (i := 663) (by decide +kernel), List.mem_of_getElem? (i := 664) (by decide +kernel)⟩
theorem lw_p58 : lw_okq (⟨"PortraitRuleModel", "make", "(I)V"⟩, 26) := ⟨⟨by decide +kernel, by decide +kernel⟩, List.mem_of_getElem? (i := 501) (by decide +kernel), List.mem_of_getElem? (i := 667) (by decide +kernel), List.mem_of_getElem? (i := 668) (by decide +kernel)⟩
theorem lw_p59 : lw_okq (⟨"PortraitRuleModel", "barOfReign", "()I"⟩, 26) := ⟨⟨by decide +kernel, by decide +kernel⟩, List.mem_of_getElem? (i := 501) (by decide +kernel), List.mem_of_getElem? (i := 675) (by decide +kernel), List.mem_of_getElem? (i := 676) (by decide +kernel)⟩
theorem lw_p60 : lw_okq (⟨"PortraitRuleModel", "stateNow", "(I)I"⟩, 26) := ⟨⟨by decide +kernel, by decide +kernel⟩, List.mem_of_getElem? (i := 501) (by decide +kernel), List.mem_of_getElem? (i := 683) (by decide +kernel), List.mem_of_getElem? (i := 684) (by decide +kernel)⟩
theorem lw_p61 : lw_okq (⟨"PortraitRuleModel", "cheapest", "(II)I"⟩, 26) := ⟨⟨by decide +kernel, by decide +kernel⟩, List.mem_of_getElem? (i := 501) (by decide +kernel), List.mem_of_getElem? (i := 699) (by decide +kernel), List.mem_of_getElem? (i := 700) (by decide +kernel)⟩
theorem lw_p62 : lw_okq (⟨"PortraitRuleModel", "isClosed", "(I)Z"⟩, 26) := ⟨⟨by decide +kernel, by decide +kernel⟩, List.mem_of_getElem? (i := 501) (by decide +kernel), List.mem_of_getElem? (i := 703) (by decide +kernel), List.mem_of_getElem? (i := 704) (by decide +kernel)⟩
theorem lw_p63 : lw_okq (⟨"PortraitRuleModel", "costOf", "(I)I"⟩, 26) := ⟨⟨by decide +kernel, by decide +kernel⟩, List.mem_of_getElem? (i := 501) (by decide +kernel), List.mem_of_getElem? (i := 707) (by decide +kernel), List.mem_of_getElem? (i := 708) (by decide +kernel)⟩
def lw_privs_4 : List (MethodName × Nat) := [(⟨"PortraitRuleModel", "faultOf", "()I"⟩, 26), (⟨"PortraitRuleModel", "goReign", "()I"⟩, 26), (⟨"PortraitRuleModel", "asNow", "()V"⟩, 26), (⟨"PortraitRuleModel", "over", "(I)V"⟩, 26), (⟨"PortraitRuleModel", "powersNow", "()I"⟩, 26), (⟨"PortraitRuleModel", "doneNow", "()I"⟩, 26), (⟨"PortraitRuleModel", "powers", "(I)I"⟩, 26), (⟨"PortraitRuleModel", "whyNoHour", "(I)I"⟩, 26), (⟨"PortraitRuleModel", "paint", "(I)V"⟩, 26), (⟨"PortraitRuleModel", "whyNoAct", "(I)I"⟩, 26), (⟨"PortraitRuleModel", "make", "(I)V"⟩, 26), (⟨"PortraitRuleModel", "barOfReign", "()I"⟩, 26), (⟨"PortraitRuleModel", "stateNow", "(I)I"⟩, 26), (⟨"PortraitRuleModel", "cheapest", "(II)I"⟩, 26), (⟨"PortraitRuleModel", "isClosed", "(I)Z"⟩, 26), (⟨"PortraitRuleModel", "costOf", "(I)I"⟩, 26)]
theorem lw_r4 : ∀ q ∈ lw_privs_4, lw_okq q := List.forall_mem_cons.mpr ⟨lw_p48, List.forall_mem_cons.mpr ⟨lw_p49, List.forall_mem_cons.mpr ⟨lw_p50, List.forall_mem_cons.mpr ⟨lw_p51, List.forall_mem_cons.mpr ⟨lw_p52, List.forall_mem_cons.mpr ⟨lw_p53, List.forall_mem_cons.mpr ⟨lw_p54, List.forall_mem_cons.mpr ⟨lw_p55, List.forall_mem_cons.mpr ⟨lw_p56, List.forall_mem_cons.mpr ⟨lw_p57, List.forall_mem_cons.mpr ⟨lw_p58, List.forall_mem_cons.mpr ⟨lw_p59, List.forall_mem_cons.mpr ⟨lw_p60, List.forall_mem_cons.mpr ⟨lw_p61, List.forall_mem_cons.mpr ⟨lw_p62, List.forall_mem_cons.mpr ⟨lw_p63, fun _ h => absurd h List.not_mem_nil⟩⟩⟩⟩⟩⟩⟩⟩⟩⟩⟩⟩⟩⟩⟩⟩
theorem lw_p64 : lw_okq (⟨"PortraitRuleModel", "givesAll", "(II)Z"⟩, 26) := ⟨⟨by decide +kernel, by decide +kernel⟩, List.mem_of_getElem? (i := 501) (by decide +kernel), List.mem_of_getElem? (i := 711) (by decide +kernel), List.mem_of_getElem? (i := 712) (by decide +kernel)⟩
theorem lw_p65 : lw_okq (⟨"PortraitRuleModel", "begun", "()I"⟩, 26) := ⟨⟨by decide +kernel, by decide +kernel⟩, List.mem_of_getElem? (i := 501) (by decide +kernel), List.mem_of_getElem? (i := 727) (by decide +kernel), List.mem_of_getElem? (i := 728) (by decide +kernel)⟩
theorem lw_p66 : lw_okq (⟨"PortraitRuleModel", "aloneFor", "(I)I"⟩, 26) := ⟨⟨by decide +kernel, by decide +kernel⟩, List.mem_of_getElem? (i := 501) (by decide +kernel), List.mem_of_getElem? (i := 742) (by decide +kernel), List.mem_of_getElem? (i := 743) (by decide +kernel)⟩
theorem lw_p67 : lw_okq (⟨"PortraitRuleModel", "layHidden", "()V"⟩, 26) := ⟨⟨by decide +kernel, by decide +kernel⟩, List.mem_of_getElem? (i := 501) (by decide +kernel), List.mem_of_getElem? (i := 762) (by decide +kernel), List.mem_of_getElem? (i := 763) (by decide +kernel)⟩
theorem lw_p68 : lw_okq (⟨"PortraitRuleModel", "layStep", "(I)V"⟩, 26) := ⟨⟨by decide +kernel, by decide +kernel⟩, List.mem_of_getElem? (i := 501) (by decide +kernel), List.mem_of_getElem? (i := 766) (by decide +kernel), List.mem_of_getElem? (i := 767) (by decide +kernel)⟩
theorem lw_p69 : lw_okq (⟨"PortraitRuleModel", "madeBy", "(I)I"⟩, 26) := ⟨⟨by decide +kernel, by decide +kernel⟩, List.mem_of_getElem? (i := 501) (by decide +kernel), List.mem_of_getElem? (i := 786) (by decide +kernel), List.mem_of_getElem? (i := 787) (by decide +kernel)⟩
def lw_privs_5 : List (MethodName × Nat) := [(⟨"PortraitRuleModel", "givesAll", "(II)Z"⟩, 26), (⟨"PortraitRuleModel", "begun", "()I"⟩, 26), (⟨"PortraitRuleModel", "aloneFor", "(I)I"⟩, 26), (⟨"PortraitRuleModel", "layHidden", "()V"⟩, 26), (⟨"PortraitRuleModel", "layStep", "(I)V"⟩, 26), (⟨"PortraitRuleModel", "madeBy", "(I)I"⟩, 26)]
theorem lw_r5 : ∀ q ∈ lw_privs_5, lw_okq q := List.forall_mem_cons.mpr ⟨lw_p64, List.forall_mem_cons.mpr ⟨lw_p65, List.forall_mem_cons.mpr ⟨lw_p66, List.forall_mem_cons.mpr ⟨lw_p67, List.forall_mem_cons.mpr ⟨lw_p68, List.forall_mem_cons.mpr ⟨lw_p69, fun _ h => absurd h List.not_mem_nil⟩⟩⟩⟩⟩⟩
def lw_privs : List (MethodName × Nat) := lw_privs_1 ++ (lw_privs_2 ++ (lw_privs_3 ++ (lw_privs_4 ++ (lw_privs_5))))
def lw_tbl : List Cond := k2_sels lw_privs ++ tables_1
theorem lw_privs_ok : ∀ q ∈ lw_privs, lw_okq q := by
  show ∀ q ∈ lw_privs_1 ++ (lw_privs_2 ++ (lw_privs_3 ++ (lw_privs_4 ++ (lw_privs_5)))), lw_okq q
  exact List.forall_mem_append.mpr ⟨lw_r1, List.forall_mem_append.mpr ⟨lw_r2, List.forall_mem_append.mpr ⟨lw_r3, List.forall_mem_append.mpr ⟨lw_r4, lw_r5⟩⟩⟩⟩
def RX0 : String := "PortraitRule$Pad"
def TX0 : u_T := fun k => match k with
  | 0 => ("PortraitRule$Pad", "signs", "[I", true)
  | _ => ("PortraitRule$Pad", "count", "I", false)
def tyX0 : Nat → FieldType := fun k => match k with
  | 0 => .array .int
  | _ => .int
abbrev wsX00 : List Cond := u_ws RX0 TX0 2
theorem nmX0 : ∀ a, a < 2 → ∀ b, b < 2 → a ≠ b → (TX0 a).2.1 ≠ (TX0 b).2.1 := by decide +kernel
theorem tyX0_ok : ∀ k, k < 2 → parseFieldDescriptor (TX0 k).2.2.1 = some (tyX0 k) := by decide +kernel
abbrev cX0_init : ByteArray := prog_2_method_1_code
def yX0_init : MethodName := ⟨RX0, "<init>", "()V"⟩
abbrev cX0_write : ByteArray := prog_2_method_2_code
def yX0_write : MethodName := ⟨RX0, "write", "(I)V"⟩
abbrev cX0_signAt : ByteArray := prog_2_method_3_code
def yX0_signAt : MethodName := ⟨RX0, "signAt", "(I)I"⟩
abbrev cX0_kindOf : ByteArray := prog_2_method_4_code
def yX0_kindOf : MethodName := ⟨RX0, "kindOf", "(I)I"⟩
abbrev cX0_numberOf : ByteArray := prog_2_method_5_code
def yX0_numberOf : MethodName := ⟨RX0, "numberOf", "(I)I"⟩
abbrev cX0_firstFault : ByteArray := prog_2_method_6_code
def yX0_firstFault : MethodName := ⟨RX0, "firstFault", "()I"⟩
def RX1 : String := "PortraitRule$Realm"
def TX1 : u_T := fun k => match k with
  | 0 => ("PortraitRule$Realm", "hours", "[I", true)
  | 1 => ("PortraitRule$Realm", "under", "[I", true)
  | 2 => ("PortraitRule$Realm", "gives", "[I", true)
  | 3 => ("PortraitRule$Realm", "painted", "[I", true)
  | 4 => ("PortraitRule$Realm", "needed", "[I", true)
  | 5 => ("PortraitRule$Realm", "sightSteps", "[I", true)
  | 6 => ("PortraitRule$Realm", "sightActs", "[I", true)
  | 7 => ("PortraitRule$Realm", "colonies", "[I", true)
  | 8 => ("PortraitRule$Realm", "inForce", "I", false)
  | 9 => ("PortraitRule$Realm", "sits", "Z", false)
  | 10 => ("PortraitRule$Realm", "sights", "I", false)
  | 11 => ("PortraitRule$Realm", "sightsThatCould", "I", false)
  | 12 => ("PortraitRule$Realm", "hoursPainted", "I", false)
  | 13 => ("PortraitRule$Realm", "actsMade", "I", false)
  | _ => ("PortraitRule$Realm", "actsRepealed", "I", false)
def tyX1 : Nat → FieldType := fun k => match k with
  | 0 => .array .int
  | 1 => .array .int
  | 2 => .array .int
  | 3 => .array .int
  | 4 => .array .int
  | 5 => .array .int
  | 6 => .array .int
  | 7 => .array .int
  | 8 => .int
  | 9 => .boolean
  | 10 => .int
  | 11 => .int
  | 12 => .int
  | 13 => .int
  | _ => .int
abbrev wsX10 : List Cond := u_ws RX1 TX1 15
theorem nmX1 : ∀ a, a < 15 → ∀ b, b < 15 → a ≠ b → (TX1 a).2.1 ≠ (TX1 b).2.1 := by decide +kernel
theorem tyX1_ok : ∀ k, k < 15 → parseFieldDescriptor (TX1 k).2.2.1 = some (tyX1 k) := by decide +kernel
abbrev cX1_init : ByteArray := prog_3_method_1_code
def yX1_init : MethodName := ⟨RX1, "<init>", "()V"⟩
abbrev cX1_copyFrom : ByteArray := prog_3_method_2_code
def yX1_copyFrom : MethodName := ⟨RX1, "copyFrom", "(LPortraitRule$Realm;)V"⟩
abbrev cX1_doneParts : ByteArray := prog_3_method_3_code
def yX1_doneParts : MethodName := ⟨RX1, "doneParts", "()I"⟩
abbrev cX1_paintedParts : ByteArray := prog_3_method_4_code
def yX1_paintedParts : MethodName := ⟨RX1, "paintedParts", "()I"⟩
abbrev cX1_powersOf : ByteArray := prog_3_method_5_code
def yX1_powersOf : MethodName := ⟨RX1, "powersOf", "(I)I"⟩
abbrev cX1_actsWithin : ByteArray := prog_3_method_6_code
def yX1_actsWithin : MethodName := ⟨RX1, "actsWithin", "(I)I"⟩
abbrev cX1_givesAll : ByteArray := prog_3_method_7_code
def yX1_givesAll : MethodName := ⟨RX1, "givesAll", "(II)Z"⟩
abbrev cX1_partsThatGive : ByteArray := prog_3_method_8_code
def yX1_partsThatGive : MethodName := ⟨RX1, "partsThatGive", "(I)I"⟩
abbrev cX1_isPicture : ByteArray := prog_3_method_9_code
def yX1_isPicture : MethodName := ⟨RX1, "isPicture", "(I)Z"⟩
abbrev cX1_canFinish : ByteArray := prog_3_method_10_code
def yX1_canFinish : MethodName := ⟨RX1, "canFinish", "(II)Z"⟩
abbrev cX1_hoursToPaint : ByteArray := prog_3_method_11_code
def yX1_hoursToPaint : MethodName := ⟨RX1, "hoursToPaint", "(I)I"⟩
abbrev cX1_withAllAbove : ByteArray := prog_3_method_12_code
def yX1_withAllAbove : MethodName := ⟨RX1, "withAllAbove", "(I)I"⟩
abbrev cX1_fallingWith : ByteArray := prog_3_method_13_code
def yX1_fallingWith : MethodName := ⟨RX1, "fallingWith", "(I)I"⟩
abbrev cX1_powersThereAre : ByteArray := prog_3_method_14_code
def yX1_powersThereAre : MethodName := ⟨RX1, "powersThereAre", "()I"⟩
abbrev cX1_whyNot : ByteArray := prog_3_method_15_code
def yX1_whyNot : MethodName := ⟨RX1, "whyNot", "(II)I"⟩
abbrev cX1_whyNotPaint : ByteArray := prog_3_method_16_code
def yX1_whyNotPaint : MethodName := ⟨RX1, "whyNotPaint", "(I)I"⟩
abbrev cX1_whyNotMake : ByteArray := prog_3_method_17_code
def yX1_whyNotMake : MethodName := ⟨RX1, "whyNotMake", "(I)I"⟩
abbrev cX1_takeIfItCanBe : ByteArray := prog_3_method_18_code
def yX1_takeIfItCanBe : MethodName := ⟨RX1, "takeIfItCanBe", "(II)I"⟩
abbrev cX1_paint : ByteArray := prog_3_method_19_code
def yX1_paint : MethodName := ⟨RX1, "paint", "(I)V"⟩
abbrev cX1_unpaint : ByteArray := prog_3_method_20_code
def yX1_unpaint : MethodName := ⟨RX1, "unpaint", "(I)V"⟩
abbrev cX1_repeal : ByteArray := prog_3_method_21_code
def yX1_repeal : MethodName := ⟨RX1, "repeal", "()V"⟩
abbrev cX1_paintLeast : ByteArray := prog_3_method_22_code
def yX1_paintLeast : MethodName := ⟨RX1, "paintLeast", "()V"⟩
abbrev cX1_addSight : ByteArray := prog_3_method_23_code
def yX1_addSight : MethodName := ⟨RX1, "addSight", "(IIZ)V"⟩
abbrev cX1_nextSightStep : ByteArray := prog_3_method_24_code
def yX1_nextSightStep : MethodName := ⟨RX1, "nextSightStep", "(I)I"⟩
abbrev cX1_fitsSightsAt : ByteArray := prog_3_method_25_code
def yX1_fitsSightsAt : MethodName := ⟨RX1, "fitsSightsAt", "(II)Z"⟩
abbrev cX1_tellState : ByteArray := prog_3_method_26_code
def yX1_tellState : MethodName := ⟨RX1, "tellState", "(I)I"⟩
abbrev cX1_tellPart : ByteArray := prog_3_method_27_code
def yX1_tellPart : MethodName := ⟨RX1, "tellPart", "(II)I"⟩
def RX2 : String := "PortraitRule"
def TX2 : u_T := fun k => match k with
  | 0 => ("PortraitRule", "now", "LPortraitRule$Realm;", true)
  | 1 => ("PortraitRule", "trial", "LPortraitRule$Realm;", true)
  | 2 => ("PortraitRule", "firstImage", "LPortraitRule$Realm;", true)
  | 3 => ("PortraitRule", "secondImage", "LPortraitRule$Realm;", true)
  | 4 => ("PortraitRule", "pad", "LPortraitRule$Pad;", true)
  | 5 => ("PortraitRule", "bySet", "[I", true)
  | 6 => ("PortraitRule", "firstKept", "Z", false)
  | 7 => ("PortraitRule", "secondKept", "Z", false)
  | 8 => ("PortraitRule", "reason", "I", false)
  | _ => ("PortraitRule", "stepsTaken", "I", false)
def tyX2 : Nat → FieldType := fun k => match k with
  | 0 => .object "PortraitRule$Realm"
  | 1 => .object "PortraitRule$Realm"
  | 2 => .object "PortraitRule$Realm"
  | 3 => .object "PortraitRule$Realm"
  | 4 => .object "PortraitRule$Pad"
  | 5 => .array .int
  | 6 => .boolean
  | 7 => .boolean
  | 8 => .int
  | _ => .int
abbrev wsX20 : List Cond := u_ws RX2 TX2 10
theorem nmX2 : ∀ a, a < 10 → ∀ b, b < 10 → a ≠ b → (TX2 a).2.1 ≠ (TX2 b).2.1 := by decide +kernel
theorem tyX2_ok : ∀ k, k < 10 → parseFieldDescriptor (TX2 k).2.2.1 = some (tyX2 k) := by decide +kernel
abbrev cX2_init : ByteArray := prog_1_method_1_code
def yX2_init : MethodName := ⟨RX2, "<init>", "()V"⟩
abbrev cX2_part : ByteArray := prog_1_method_2_code
def yX2_part : MethodName := ⟨RX2, "part", "(IIII)I"⟩
abbrev cX2_needs : ByteArray := prog_1_method_3_code
def yX2_needs : MethodName := ⟨RX2, "needs", "(II)I"⟩
abbrev cX2_say : ByteArray := prog_1_method_4_code
def yX2_say : MethodName := ⟨RX2, "say", "(I)I"⟩
abbrev cX2_wipe : ByteArray := prog_1_method_5_code
def yX2_wipe : MethodName := ⟨RX2, "wipe", "()I"⟩
abbrev cX2_fault : ByteArray := prog_1_method_6_code
def yX2_fault : MethodName := ⟨RX2, "fault", "()I"⟩
abbrev cX2_judge : ByteArray := prog_1_method_7_code
def yX2_judge : MethodName := ⟨RX2, "judge", "(I)I"⟩
abbrev cX2_done : ByteArray := prog_1_method_8_code
def yX2_done : MethodName := ⟨RX2, "done", "()I"⟩
abbrev cX2_state : ByteArray := prog_1_method_9_code
def yX2_state : MethodName := ⟨RX2, "state", "(I)I"⟩
abbrev cX2_behind : ByteArray := prog_1_method_10_code
def yX2_behind : MethodName := ⟨RX2, "behind", "(I)I"⟩
abbrev cX2_can : ByteArray := prog_1_method_11_code
def yX2_can : MethodName := ⟨RX2, "can", "()I"⟩
abbrev cX2_lacks : ByteArray := prog_1_method_12_code
def yX2_lacks : MethodName := ⟨RX2, "lacks", "(II)I"⟩
abbrev cX2_plan : ByteArray := prog_1_method_13_code
def yX2_plan : MethodName := ⟨RX2, "plan", "(III)I"⟩
abbrev cX2_orders : ByteArray := prog_1_method_14_code
def yX2_orders : MethodName := ⟨RX2, "orders", "()I"⟩
abbrev cX2_bar : ByteArray := prog_1_method_15_code
def yX2_bar : MethodName := ⟨RX2, "bar", "(II)I"⟩
abbrev cX2_falls : ByteArray := prog_1_method_16_code
def yX2_falls : MethodName := ⟨RX2, "falls", "(II)I"⟩
abbrev cX2_alone : ByteArray := prog_1_method_17_code
def yX2_alone : MethodName := ⟨RX2, "alone", "(I)I"⟩
abbrev cX2_guard : ByteArray := prog_1_method_18_code
def yX2_guard : MethodName := ⟨RX2, "guard", "(II)I"⟩
abbrev cX2_seen : ByteArray := prog_1_method_19_code
def yX2_seen : MethodName := ⟨RX2, "seen", "(IIZ)I"⟩
abbrev cX2_forget : ByteArray := prog_1_method_20_code
def yX2_forget : MethodName := ⟨RX2, "forget", "()I"⟩
abbrev cX2_hidden : ByteArray := prog_1_method_21_code
def yX2_hidden : MethodName := ⟨RX2, "hidden", "(I)I"⟩
abbrev cX2_tries : ByteArray := prog_1_method_22_code
def yX2_tries : MethodName := ⟨RX2, "tries", "(I)I"⟩
abbrev cX2_send : ByteArray := prog_1_method_23_code
def yX2_send : MethodName := ⟨RX2, "send", "(I)I"⟩
abbrev cX2_makes : ByteArray := prog_1_method_24_code
def yX2_makes : MethodName := ⟨RX2, "makes", "(I)I"⟩
abbrev cX2_quarrel : ByteArray := prog_1_method_25_code
def yX2_quarrel : MethodName := ⟨RX2, "quarrel", "(II)I"⟩
abbrev cX2_sent : ByteArray := prog_1_method_26_code
def yX2_sent : MethodName := ⟨RX2, "sent", "()I"⟩
abbrev cX2_turns : ByteArray := prog_1_method_27_code
def yX2_turns : MethodName := ⟨RX2, "turns", "(II)I"⟩
abbrev cX2_fever : ByteArray := prog_1_method_28_code
def yX2_fever : MethodName := ⟨RX2, "fever", "(IIIII)J"⟩
abbrev cX2_year : ByteArray := prog_1_method_29_code
def yX2_year : MethodName := ⟨RX2, "year", "(III)I"⟩
abbrev cX2_image : ByteArray := prog_1_method_30_code
def yX2_image : MethodName := ⟨RX2, "image", "(I)I"⟩
abbrev cX2_restore : ByteArray := prog_1_method_31_code
def yX2_restore : MethodName := ⟨RX2, "restore", "(I)I"⟩
abbrev cX2_told : ByteArray := prog_1_method_32_code
def yX2_told : MethodName := ⟨RX2, "told", "(I)I"⟩
abbrev cX2_isOfEight : ByteArray := prog_1_method_33_code
def yX2_isOfEight : MethodName := ⟨RX2, "isOfEight", "(I)Z"⟩
abbrev cX2_isSet : ByteArray := prog_1_method_34_code
def yX2_isSet : MethodName := ⟨RX2, "isSet", "(I)Z"⟩
abbrev cX2_isEitherOne : ByteArray := prog_1_method_35_code
def yX2_isEitherOne : MethodName := ⟨RX2, "isEitherOne", "(I)Z"⟩
abbrev cX2_isColony : ByteArray := prog_1_method_36_code
def yX2_isColony : MethodName := ⟨RX2, "isColony", "(I)Z"⟩
abbrev cX2_tryReign : ByteArray := prog_1_method_37_code
def yX2_tryReign : MethodName := ⟨RX2, "tryReign", "()V"⟩
abbrev cX2_kindOfDraw : ByteArray := prog_1_method_38_code
def yX2_kindOfDraw : MethodName := ⟨RX2, "kindOfDraw", "(I)I"⟩
abbrev cX2_cheapestPlan : ByteArray := prog_1_method_39_code
def yX2_cheapestPlan : MethodName := ⟨RX2, "cheapestPlan", "(II)I"⟩
abbrev cX2_fitsPlan : ByteArray := prog_1_method_40_code
def yX2_fitsPlan : MethodName := ⟨RX2, "fitsPlan", "(III)Z"⟩
abbrev cX2_tellPlan : ByteArray := prog_1_method_41_code
def yX2_tellPlan : MethodName := ⟨RX2, "tellPlan", "(II)I"⟩
abbrev cX2_fewestToBar : ByteArray := prog_1_method_42_code
def yX2_fewestToBar : MethodName := ⟨RX2, "fewestToBar", "(I)I"⟩
abbrev cX2_fewestToGuard : ByteArray := prog_1_method_43_code
def yX2_fewestToGuard : MethodName := ⟨RX2, "fewestToGuard", "(I)I"⟩
abbrev cX2_isFewer : ByteArray := prog_1_method_44_code
def yX2_isFewer : MethodName := ⟨RX2, "isFewer", "(II)Z"⟩
abbrev cX2_tellFewest : ByteArray := prog_1_method_45_code
def yX2_tellFewest : MethodName := ⟨RX2, "tellFewest", "(II)I"⟩
abbrev cX2_clearBySet : ByteArray := prog_1_method_46_code
def yX2_clearBySet : MethodName := ⟨RX2, "clearBySet", "()V"⟩
abbrev cX2_findHidden : ByteArray := prog_1_method_47_code
def yX2_findHidden : MethodName := ⟨RX2, "findHidden", "()V"⟩
abbrev cX2_markAllWithMore : ByteArray := prog_1_method_48_code
def yX2_markAllWithMore : MethodName := ⟨RX2, "markAllWithMore", "()V"⟩
abbrev cX2_keepThoseSeenAt : ByteArray := prog_1_method_49_code
def yX2_keepThoseSeenAt : MethodName := ⟨RX2, "keepThoseSeenAt", "(I)V"⟩
abbrev cX2_countHidden : ByteArray := prog_1_method_50_code
def yX2_countHidden : MethodName := ⟨RX2, "countHidden", "()I"⟩
abbrev cX2_partsInSomeHidden : ByteArray := prog_1_method_51_code
def yX2_partsInSomeHidden : MethodName := ⟨RX2, "partsInSomeHidden", "()I"⟩
abbrev cX2_partsInAllHidden : ByteArray := prog_1_method_52_code
def yX2_partsInAllHidden : MethodName := ⟨RX2, "partsInAllHidden", "()I"⟩
abbrev cX2_mostLeftBy : ByteArray := prog_1_method_53_code
def yX2_mostLeftBy : MethodName := ⟨RX2, "mostLeftBy", "(II)I"⟩
abbrev cX2_findWinningParts : ByteArray := prog_1_method_54_code
def yX2_findWinningParts : MethodName := ⟨RX2, "findWinningParts", "(I)V"⟩
abbrev cX2_winningPart : ByteArray := prog_1_method_55_code
def yX2_winningPart : MethodName := ⟨RX2, "winningPart", "(II)I"⟩
abbrev cX2_feverChances : ByteArray := prog_1_method_56_code
def yX2_feverChances : MethodName := ⟨RX2, "feverChances", "(III)J"⟩
abbrev cX2_feverHours : ByteArray := prog_1_method_57_code
def yX2_feverHours : MethodName := ⟨RX2, "feverHours", "(II)J"⟩
abbrev cX2_feverWeight : ByteArray := prog_1_method_58_code
def yX2_feverWeight : MethodName := ⟨RX2, "feverWeight", "(III)J"⟩
abbrev cX2_choices : ByteArray := prog_1_method_59_code
def yX2_choices : MethodName := ⟨RX2, "choices", "(II)J"⟩
abbrev cX2_power : ByteArray := prog_1_method_60_code
def yX2_power : MethodName := ⟨RX2, "power", "(II)J"⟩
abbrev cX2_commonDivisor : ByteArray := prog_1_method_61_code
def yX2_commonDivisor : MethodName := ⟨RX2, "commonDivisor", "(JJ)J"⟩
def RX3 : String := "PortraitRuleModel"
def TX3 : u_T := fun k => match k with
  | 0 => ("PortraitRuleModel", "hours", "[I", true)
  | 1 => ("PortraitRuleModel", "under", "[I", true)
  | 2 => ("PortraitRuleModel", "gives", "[I", true)
  | 3 => ("PortraitRuleModel", "painted", "[I", true)
  | 4 => ("PortraitRuleModel", "need", "[I", true)
  | 5 => ("PortraitRuleModel", "force", "I", false)
  | 6 => ("PortraitRuleModel", "sits", "I", false)
  | 7 => ("PortraitRuleModel", "colony", "[I", true)
  | 8 => ("PortraitRuleModel", "sights", "I", false)
  | 9 => ("PortraitRuleModel", "sight", "[I", true)
  | 10 => ("PortraitRuleModel", "signs", "I", false)
  | 11 => ("PortraitRuleModel", "pad", "[I", true)
  | 12 => ("PortraitRuleModel", "now", "[I", true)
  | 13 => ("PortraitRuleModel", "forceNow", "I", false)
  | 14 => ("PortraitRuleModel", "sitsNow", "I", false)
  | 15 => ("PortraitRuleModel", "hoursNow", "I", false)
  | 16 => ("PortraitRuleModel", "repealed", "I", false)
  | 17 => ("PortraitRuleModel", "made", "I", false)
  | 18 => ("PortraitRuleModel", "reason", "I", false)
  | 19 => ("PortraitRuleModel", "steps", "I", false)
  | 20 => ("PortraitRuleModel", "ways", "[I", true)
  | 21 => ("PortraitRuleModel", "can", "[Z", true)
  | 22 => ("PortraitRuleModel", "then", "[Z", true)
  | 23 => ("PortraitRuleModel", "wins", "[Z", true)
  | 24 => ("PortraitRuleModel", "image", "[I", true)
  | _ => ("PortraitRuleModel", "isKept", "[Z", true)
def tyX3 : Nat → FieldType := fun k => match k with
  | 0 => .array .int
  | 1 => .array .int
  | 2 => .array .int
  | 3 => .array .int
  | 4 => .array .int
  | 5 => .int
  | 6 => .int
  | 7 => .array .int
  | 8 => .int
  | 9 => .array .int
  | 10 => .int
  | 11 => .array .int
  | 12 => .array .int
  | 13 => .int
  | 14 => .int
  | 15 => .int
  | 16 => .int
  | 17 => .int
  | 18 => .int
  | 19 => .int
  | 20 => .array .int
  | 21 => .array .boolean
  | 22 => .array .boolean
  | 23 => .array .boolean
  | 24 => .array .int
  | _ => .array .boolean
abbrev wsX30 : List Cond := u_ws RX3 TX3 26
theorem nmX3 : ∀ a, a < 26 → ∀ b, b < 26 → a ≠ b → (TX3 a).2.1 ≠ (TX3 b).2.1 := by decide +kernel
theorem tyX3_ok : ∀ k, k < 26 → parseFieldDescriptor (TX3 k).2.2.1 = some (tyX3 k) := by decide +kernel
abbrev cX3_init : ByteArray := prog_5_method_1_code
def yX3_init : MethodName := ⟨RX3, "<init>", "()V"⟩
abbrev cX3_in : ByteArray := prog_5_method_2_code
def yX3_in : MethodName := ⟨RX3, "in", "(III)Z"⟩
abbrev cX3_has : ByteArray := prog_5_method_3_code
def yX3_has : MethodName := ⟨RX3, "has", "(II)Z"⟩
abbrev cX3_bits : ByteArray := prog_5_method_4_code
def yX3_bits : MethodName := ⟨RX3, "bits", "(I)I"⟩
abbrev cX3_isOne : ByteArray := prog_5_method_5_code
def yX3_isOne : MethodName := ⟨RX3, "isOne", "(I)Z"⟩
abbrev cX3_above : ByteArray := prog_5_method_6_code
def yX3_above : MethodName := ⟨RX3, "above", "(I)I"⟩
abbrev cX3_part : ByteArray := prog_5_method_7_code
def yX3_part : MethodName := ⟨RX3, "part", "(IIII)I"⟩
abbrev cX3_needs : ByteArray := prog_5_method_8_code
def yX3_needs : MethodName := ⟨RX3, "needs", "(II)I"⟩
abbrev cX3_say : ByteArray := prog_5_method_9_code
def yX3_say : MethodName := ⟨RX3, "say", "(I)I"⟩
abbrev cX3_wipe : ByteArray := prog_5_method_10_code
def yX3_wipe : MethodName := ⟨RX3, "wipe", "()I"⟩
abbrev cX3_isPart : ByteArray := prog_5_method_11_code
def yX3_isPart : MethodName := ⟨RX3, "isPart", "(I)Z"⟩
abbrev cX3_faultOf : ByteArray := prog_5_method_12_code
def yX3_faultOf : MethodName := ⟨RX3, "faultOf", "()I"⟩
abbrev cX3_fault : ByteArray := prog_5_method_13_code
def yX3_fault : MethodName := ⟨RX3, "fault", "()I"⟩
abbrev cX3_asNow : ByteArray := prog_5_method_14_code
def yX3_asNow : MethodName := ⟨RX3, "asNow", "()V"⟩
abbrev cX3_doneNow : ByteArray := prog_5_method_15_code
def yX3_doneNow : MethodName := ⟨RX3, "doneNow", "()I"⟩
abbrev cX3_powers : ByteArray := prog_5_method_16_code
def yX3_powers : MethodName := ⟨RX3, "powers", "(I)I"⟩
abbrev cX3_givesAll : ByteArray := prog_5_method_17_code
def yX3_givesAll : MethodName := ⟨RX3, "givesAll", "(II)Z"⟩
abbrev cX3_powersNow : ByteArray := prog_5_method_18_code
def yX3_powersNow : MethodName := ⟨RX3, "powersNow", "()I"⟩
abbrev cX3_whyNoHour : ByteArray := prog_5_method_19_code
def yX3_whyNoHour : MethodName := ⟨RX3, "whyNoHour", "(I)I"⟩
abbrev cX3_paint : ByteArray := prog_5_method_20_code
def yX3_paint : MethodName := ⟨RX3, "paint", "(I)V"⟩
abbrev cX3_over : ByteArray := prog_5_method_21_code
def yX3_over : MethodName := ⟨RX3, "over", "(I)V"⟩
abbrev cX3_whyNoAct : ByteArray := prog_5_method_22_code
def yX3_whyNoAct : MethodName := ⟨RX3, "whyNoAct", "(I)I"⟩
abbrev cX3_make : ByteArray := prog_5_method_23_code
def yX3_make : MethodName := ⟨RX3, "make", "(I)V"⟩
abbrev cX3_goReign : ByteArray := prog_5_method_24_code
def yX3_goReign : MethodName := ⟨RX3, "goReign", "()I"⟩
abbrev cX3_judge : ByteArray := prog_5_method_25_code
def yX3_judge : MethodName := ⟨RX3, "judge", "(I)I"⟩
abbrev cX3_barOfReign : ByteArray := prog_5_method_26_code
def yX3_barOfReign : MethodName := ⟨RX3, "barOfReign", "()I"⟩
abbrev cX3_done : ByteArray := prog_5_method_27_code
def yX3_done : MethodName := ⟨RX3, "done", "()I"⟩
abbrev cX3_stateNow : ByteArray := prog_5_method_28_code
def yX3_stateNow : MethodName := ⟨RX3, "stateNow", "(I)I"⟩
abbrev cX3_state : ByteArray := prog_5_method_29_code
def yX3_state : MethodName := ⟨RX3, "state", "(I)I"⟩
abbrev cX3_behind : ByteArray := prog_5_method_30_code
def yX3_behind : MethodName := ⟨RX3, "behind", "(I)I"⟩
abbrev cX3_can : ByteArray := prog_5_method_31_code
def yX3_can : MethodName := ⟨RX3, "can", "()I"⟩
abbrev cX3_isClosed : ByteArray := prog_5_method_32_code
def yX3_isClosed : MethodName := ⟨RX3, "isClosed", "(I)Z"⟩
abbrev cX3_costOf : ByteArray := prog_5_method_33_code
def yX3_costOf : MethodName := ⟨RX3, "costOf", "(I)I"⟩
abbrev cX3_cheapest : ByteArray := prog_5_method_34_code
def yX3_cheapest : MethodName := ⟨RX3, "cheapest", "(II)I"⟩
abbrev cX3_lacks : ByteArray := prog_5_method_35_code
def yX3_lacks : MethodName := ⟨RX3, "lacks", "(II)I"⟩
abbrev cX3_plan : ByteArray := prog_5_method_36_code
def yX3_plan : MethodName := ⟨RX3, "plan", "(III)I"⟩
abbrev cX3_orders : ByteArray := prog_5_method_37_code
def yX3_orders : MethodName := ⟨RX3, "orders", "()I"⟩
abbrev cX3_begun : ByteArray := prog_5_method_38_code
def yX3_begun : MethodName := ⟨RX3, "begun", "()I"⟩
abbrev cX3_bar : ByteArray := prog_5_method_39_code
def yX3_bar : MethodName := ⟨RX3, "bar", "(II)I"⟩
abbrev cX3_falls : ByteArray := prog_5_method_40_code
def yX3_falls : MethodName := ⟨RX3, "falls", "(II)I"⟩
abbrev cX3_aloneFor : ByteArray := prog_5_method_41_code
def yX3_aloneFor : MethodName := ⟨RX3, "aloneFor", "(I)I"⟩
abbrev cX3_alone : ByteArray := prog_5_method_42_code
def yX3_alone : MethodName := ⟨RX3, "alone", "(I)I"⟩
abbrev cX3_guard : ByteArray := prog_5_method_43_code
def yX3_guard : MethodName := ⟨RX3, "guard", "(II)I"⟩
abbrev cX3_seen : ByteArray := prog_5_method_44_code
def yX3_seen : MethodName := ⟨RX3, "seen", "(IIZ)I"⟩
abbrev cX3_forget : ByteArray := prog_5_method_45_code
def yX3_forget : MethodName := ⟨RX3, "forget", "()I"⟩
abbrev cX3_layHidden : ByteArray := prog_5_method_46_code
def yX3_layHidden : MethodName := ⟨RX3, "layHidden", "()V"⟩
abbrev cX3_layStep : ByteArray := prog_5_method_47_code
def yX3_layStep : MethodName := ⟨RX3, "layStep", "(I)V"⟩
abbrev cX3_hidden : ByteArray := prog_5_method_48_code
def yX3_hidden : MethodName := ⟨RX3, "hidden", "(I)I"⟩
abbrev cX3_tries : ByteArray := prog_5_method_49_code
def yX3_tries : MethodName := ⟨RX3, "tries", "(I)I"⟩
abbrev cX3_isColony : ByteArray := prog_5_method_50_code
def yX3_isColony : MethodName := ⟨RX3, "isColony", "(I)Z"⟩
abbrev cX3_send : ByteArray := prog_5_method_51_code
def yX3_send : MethodName := ⟨RX3, "send", "(I)I"⟩
abbrev cX3_madeBy : ByteArray := prog_5_method_52_code
def yX3_madeBy : MethodName := ⟨RX3, "madeBy", "(I)I"⟩
abbrev cX3_makes : ByteArray := prog_5_method_53_code
def yX3_makes : MethodName := ⟨RX3, "makes", "(I)I"⟩
abbrev cX3_quarrel : ByteArray := prog_5_method_54_code
def yX3_quarrel : MethodName := ⟨RX3, "quarrel", "(II)I"⟩
abbrev cX3_sent : ByteArray := prog_5_method_55_code
def yX3_sent : MethodName := ⟨RX3, "sent", "()I"⟩
abbrev cX3_turns : ByteArray := prog_5_method_56_code
def yX3_turns : MethodName := ⟨RX3, "turns", "(II)I"⟩
abbrev cX3_fever : ByteArray := prog_5_method_57_code
def yX3_fever : MethodName := ⟨RX3, "fever", "(IIIII)J"⟩
abbrev cX3_year : ByteArray := prog_5_method_58_code
def yX3_year : MethodName := ⟨RX3, "year", "(III)I"⟩
abbrev cX3_image : ByteArray := prog_5_method_59_code
def yX3_image : MethodName := ⟨RX3, "image", "(I)I"⟩
abbrev cX3_restore : ByteArray := prog_5_method_60_code
def yX3_restore : MethodName := ⟨RX3, "restore", "(I)I"⟩
abbrev cX3_told : ByteArray := prog_5_method_61_code
def yX3_told : MethodName := ⟨RX3, "told", "(I)I"⟩
def RJ6 : String := "java/lang/Integer"
def TJ6 : u_T := fun k => match k with
  | _ => ("", "", "", false)
def tyJ6 : Nat → FieldType := fun k => match k with
  | _ => .int
abbrev wsJ60 : List Cond := u_ws RJ6 TJ6 0
theorem nmJ6 : ∀ a, a < 0 → ∀ b, b < 0 → a ≠ b → (TJ6 a).2.1 ≠ (TJ6 b).2.1 := by decide +kernel
theorem tyJ6_ok : ∀ k, k < 0 → parseFieldDescriptor (TJ6 k).2.2.1 = some (tyJ6 k) := by decide +kernel
abbrev cJ6_bitCount_0f7a4 : ByteArray := prog_6_method_49_code
def yJ6_bitCount_0f7a4 : MethodName := ⟨RJ6, "bitCount", "(I)I"⟩
def RJ9 : String := "java/lang/Math"
def TJ9 : u_T := fun k => match k with
  | _ => ("", "", "", false)
def tyJ9 : Nat → FieldType := fun k => match k with
  | _ => .int
abbrev wsJ90 : List Cond := u_ws RJ9 TJ9 0
theorem nmJ9 : ∀ a, a < 0 → ∀ b, b < 0 → a ≠ b → (TJ9 a).2.1 ≠ (TJ9 b).2.1 := by decide +kernel
theorem tyJ9_ok : ∀ k, k < 0 → parseFieldDescriptor (TJ9 k).2.2.1 = some (tyJ9 k) := by decide +kernel
abbrev cJ9_max_7cf53 : ByteArray := prog_7_method_65_code
def yJ9_max_7cf53 : MethodName := ⟨RJ9, "max", "(II)I"⟩
def RJ10 : String := "java/lang/System"
def TJ10 : u_T := fun k => match k with
  | _ => ("", "", "", false)
def tyJ10 : Nat → FieldType := fun k => match k with
  | _ => .int
abbrev wsJ100 : List Cond := u_ws RJ10 TJ10 0
theorem nmJ10 : ∀ a, a < 0 → ∀ b, b < 0 → a ≠ b → (TJ10 a).2.1 ≠ (TJ10 b).2.1 := by decide +kernel
theorem tyJ10_ok : ∀ k, k < 0 → parseFieldDescriptor (TJ10 k).2.2.1 = some (tyJ10 k) := by decide +kernel
def RL : String := "PortraitRuleLaw"
abbrev cL_law : ByteArray := code
def yL_law : MethodName := ⟨RL, "law", "([I)Z"⟩
abbrev vwCl : List vw_C := [(RX0, TX0, 2), (RX1, TX1, 15), (RX2, TX2, 10), (RX3, TX3, 26)]
