section
-- ===== PART A: goes FIRST, ahead of the names: the tables' words, and 'selects' of the private methods out of them =====
/-- a private method of a class that the tables say can be made, by its rows of tables_1 -/
def lw_okq (q : MethodName × Nat) : Prop := (q.1.cls ≠ "java/lang/invoke/MethodHandle" ∧ q.1.cls ≠ "java/lang/invoke/VarHandle") ∧ Cond.instantiable q.1.cls q.2 ∈ tables_1 ∧ Cond.privateMethod q.1 ∈ tables_1 ∧ Cond.instanceMethod q.1 ∈ tables_1
theorem lw_p0 : lw_okq (⟨"SkyLights", "flyers", "()I"⟩, 8) := ⟨⟨by decide +kernel, by decide +kernel⟩, List.mem_of_getElem? (i := 17) (by decide +kernel), List.mem_of_getElem? (i := 314) (by decide +kernel), List.mem_of_getElem? (i := 315) (by decide +kernel)⟩
theorem lw_p1 : lw_okq (⟨"SkyLights$Tape", "readPoint", "(LSkyLights$Places;)V"⟩, 4) := ⟨⟨by decide +kernel, by decide +kernel⟩, List.mem_of_getElem? (i := 25) (by decide +kernel), List.mem_of_getElem? (i := 374) (by decide +kernel), List.mem_of_getElem? (i := 375) (by decide +kernel)⟩
theorem lw_p2 : lw_okq (⟨"SkyLights$Tape", "readNumber", "(ZC)I"⟩, 4) := ⟨⟨by decide +kernel, by decide +kernel⟩, List.mem_of_getElem? (i := 25) (by decide +kernel), List.mem_of_getElem? (i := 378) (by decide +kernel), List.mem_of_getElem? (i := 379) (by decide +kernel)⟩
theorem lw_p3 : lw_okq (⟨"SkyLights$Tape", "byteHere", "()I"⟩, 4) := ⟨⟨by decide +kernel, by decide +kernel⟩, List.mem_of_getElem? (i := 25) (by decide +kernel), List.mem_of_getElem? (i := 382) (by decide +kernel), List.mem_of_getElem? (i := 383) (by decide +kernel)⟩
theorem lw_p4 : lw_okq (⟨"SkyLights$Tape", "readDigits", "(Z)I"⟩, 4) := ⟨⟨by decide +kernel, by decide +kernel⟩, List.mem_of_getElem? (i := 25) (by decide +kernel), List.mem_of_getElem? (i := 390) (by decide +kernel), List.mem_of_getElem? (i := 391) (by decide +kernel)⟩
theorem lw_p5 : lw_okq (⟨"SkyLights$Tape", "readWorth", "()I"⟩, 4) := ⟨⟨by decide +kernel, by decide +kernel⟩, List.mem_of_getElem? (i := 25) (by decide +kernel), List.mem_of_getElem? (i := 397) (by decide +kernel), List.mem_of_getElem? (i := 398) (by decide +kernel)⟩
theorem lw_p6 : lw_okq (⟨"SkyLights", "isPicture", "(I)Z"⟩, 8) := ⟨⟨by decide +kernel, by decide +kernel⟩, List.mem_of_getElem? (i := 17) (by decide +kernel), List.mem_of_getElem? (i := 463) (by decide +kernel), List.mem_of_getElem? (i := 464) (by decide +kernel)⟩
theorem lw_p7 : lw_okq (⟨"SkyLights$Planner", "weigh", "(I)V"⟩, 3) := ⟨⟨by decide +kernel, by decide +kernel⟩, List.mem_of_getElem? (i := 115) (by decide +kernel), List.mem_of_getElem? (i := 479) (by decide +kernel), List.mem_of_getElem? (i := 480) (by decide +kernel)⟩
theorem lw_p8 : lw_okq (⟨"SkyLights$Planner", "needWith", "(II)I"⟩, 3) := ⟨⟨by decide +kernel, by decide +kernel⟩, List.mem_of_getElem? (i := 115) (by decide +kernel), List.mem_of_getElem? (i := 484) (by decide +kernel), List.mem_of_getElem? (i := 485) (by decide +kernel)⟩
theorem lw_p9 : lw_okq (⟨"SkyLights$Planner", "choose", "(I)V"⟩, 3) := ⟨⟨by decide +kernel, by decide +kernel⟩, List.mem_of_getElem? (i := 115) (by decide +kernel), List.mem_of_getElem? (i := 498) (by decide +kernel), List.mem_of_getElem? (i := 499) (by decide +kernel)⟩
theorem lw_p10 : lw_okq (⟨"SkyLights$Planner", "leastGoal", "(II)I"⟩, 3) := ⟨⟨by decide +kernel, by decide +kernel⟩, List.mem_of_getElem? (i := 115) (by decide +kernel), List.mem_of_getElem? (i := 502) (by decide +kernel), List.mem_of_getElem? (i := 503) (by decide +kernel)⟩
theorem lw_p11 : lw_okq (⟨"SkyLights$Pass", "meetBetween", "(IIIIII)Z"⟩, 3) := ⟨⟨by decide +kernel, by decide +kernel⟩, List.mem_of_getElem? (i := 133) (by decide +kernel), List.mem_of_getElem? (i := 549) (by decide +kernel), List.mem_of_getElem? (i := 550) (by decide +kernel)⟩
theorem lw_p12 : lw_okq (⟨"SkyLights$Pass", "apart", "(IIIII)I"⟩, 3) := ⟨⟨by decide +kernel, by decide +kernel⟩, List.mem_of_getElem? (i := 133) (by decide +kernel), List.mem_of_getElem? (i := 553) (by decide +kernel), List.mem_of_getElem? (i := 554) (by decide +kernel)⟩
theorem lw_p13 : lw_okq (⟨"SkyLights$Pass", "under", "(I)I"⟩, 3) := ⟨⟨by decide +kernel, by decide +kernel⟩, List.mem_of_getElem? (i := 133) (by decide +kernel), List.mem_of_getElem? (i := 557) (by decide +kernel), List.mem_of_getElem? (i := 558) (by decide +kernel)⟩
theorem lw_p14 : lw_okq (⟨"SkyLights$Parting", "noteMeetings", "(LSkyLights$Pass;I)V"⟩, 6) := ⟨⟨by decide +kernel, by decide +kernel⟩, List.mem_of_getElem? (i := 151) (by decide +kernel), List.mem_of_getElem? (i := 607) (by decide +kernel), List.mem_of_getElem? (i := 608) (by decide +kernel)⟩
theorem lw_p15 : lw_okq (⟨"SkyLights$Parting", "doOthersFit", "()Z"⟩, 6) := ⟨⟨by decide +kernel, by decide +kernel⟩, List.mem_of_getElem? (i := 151) (by decide +kernel), List.mem_of_getElem? (i := 613) (by decide +kernel), List.mem_of_getElem? (i := 614) (by decide +kernel)⟩
def lw_privs_1 : List (MethodName × Nat) := [(⟨"SkyLights", "flyers", "()I"⟩, 8), (⟨"SkyLights$Tape", "readPoint", "(LSkyLights$Places;)V"⟩, 4), (⟨"SkyLights$Tape", "readNumber", "(ZC)I"⟩, 4), (⟨"SkyLights$Tape", "byteHere", "()I"⟩, 4), (⟨"SkyLights$Tape", "readDigits", "(Z)I"⟩, 4), (⟨"SkyLights$Tape", "readWorth", "()I"⟩, 4), (⟨"SkyLights", "isPicture", "(I)Z"⟩, 8), (⟨"SkyLights$Planner", "weigh", "(I)V"⟩, 3), (⟨"SkyLights$Planner", "needWith", "(II)I"⟩, 3), (⟨"SkyLights$Planner", "choose", "(I)V"⟩, 3), (⟨"SkyLights$Planner", "leastGoal", "(II)I"⟩, 3), (⟨"SkyLights$Pass", "meetBetween", "(IIIIII)Z"⟩, 3), (⟨"SkyLights$Pass", "apart", "(IIIII)I"⟩, 3), (⟨"SkyLights$Pass", "under", "(I)I"⟩, 3), (⟨"SkyLights$Parting", "noteMeetings", "(LSkyLights$Pass;I)V"⟩, 6), (⟨"SkyLights$Parting", "doOthersFit", "()Z"⟩, 6)]
theorem lw_r1 : ∀ q ∈ lw_privs_1, lw_okq q := List.forall_mem_cons.mpr ⟨lw_p0, List.forall_mem_cons.mpr ⟨lw_p1, List.forall_mem_cons.mpr ⟨lw_p2, List.forall_mem_cons.mpr ⟨lw_p3, List.forall_mem_cons.mpr ⟨lw_p4, List.forall_mem_cons.mpr ⟨lw_p5, List.forall_mem_cons.mpr ⟨lw_p6, List.forall_mem_cons.mpr ⟨lw_p7, List.forall_mem_cons.mpr ⟨lw_p8, List.forall_mem_cons.mpr ⟨lw_p9, List.forall_mem_cons.mpr ⟨lw_p10, List.forall_mem_cons.mpr ⟨lw_p11, List.forall_mem_cons.mpr ⟨lw_p12, List.forall_mem_cons.mpr ⟨lw_p13, List.forall_mem_cons.mpr ⟨lw_p14, List.forall_mem_cons.mpr ⟨lw_p15, fun _ h => absurd h List.not_mem_nil⟩⟩⟩⟩⟩⟩⟩⟩⟩⟩⟩⟩⟩⟩⟩⟩
theorem lw_p16 : lw_okq (⟨"SkyLights$Parting", "doMeet", "(II)Z"⟩, 6) := ⟨⟨by decide +kernel, by decide +kernel⟩, List.mem_of_getElem? (i := 151) (by decide +kernel), List.mem_of_getElem? (i := 617) (by decide +kernel), List.mem_of_getElem? (i := 618) (by decide +kernel)⟩
theorem lw_p17 : lw_okq (⟨"SkyLights$Parting", "keepTried", "(I)V"⟩, 6) := ⟨⟨by decide +kernel, by decide +kernel⟩, List.mem_of_getElem? (i := 151) (by decide +kernel), List.mem_of_getElem? (i := 625) (by decide +kernel), List.mem_of_getElem? (i := 626) (by decide +kernel)⟩
theorem lw_p18 : lw_okq (⟨"SkyLights$Parting", "doesFit", "(I)Z"⟩, 6) := ⟨⟨by decide +kernel, by decide +kernel⟩, List.mem_of_getElem? (i := 151) (by decide +kernel), List.mem_of_getElem? (i := 629) (by decide +kernel), List.mem_of_getElem? (i := 630) (by decide +kernel)⟩
theorem lw_p19 : lw_okq (⟨"SkyLights", "isFlyer", "(I)Z"⟩, 8) := ⟨⟨by decide +kernel, by decide +kernel⟩, List.mem_of_getElem? (i := 17) (by decide +kernel), List.mem_of_getElem? (i := 658) (by decide +kernel), List.mem_of_getElem? (i := 659) (by decide +kernel)⟩
theorem lw_p20 : lw_okq (⟨"SkyLights", "worth", "(II)I"⟩, 8) := ⟨⟨by decide +kernel, by decide +kernel⟩, List.mem_of_getElem? (i := 17) (by decide +kernel), List.mem_of_getElem? (i := 739) (by decide +kernel), List.mem_of_getElem? (i := 740) (by decide +kernel)⟩
theorem lw_p21 : lw_okq (⟨"SkyLights$Foreign", "told", "(II)I"⟩, 7) := ⟨⟨by decide +kernel, by decide +kernel⟩, List.mem_of_getElem? (i := 238) (by decide +kernel), List.mem_of_getElem? (i := 760) (by decide +kernel), List.mem_of_getElem? (i := 761) (by decide +kernel)⟩
theorem lw_p22 : lw_okq (⟨"SkyLights$Foreign", "leastTick", "()I"⟩, 7) := ⟨⟨by decide +kernel, by decide +kernel⟩, List.mem_of_getElem? (i := 238) (by decide +kernel), List.mem_of_getElem? (i := 781) (by decide +kernel), List.mem_of_getElem? (i := 782) (by decide +kernel)⟩
theorem lw_p23 : lw_okq (⟨"SkyLights$Foreign", "isClashAt", "(ILSkyLights$Air;)Z"⟩, 7) := ⟨⟨by decide +kernel, by decide +kernel⟩, List.mem_of_getElem? (i := 238) (by decide +kernel), List.mem_of_getElem? (i := 786) (by decide +kernel), List.mem_of_getElem? (i := 787) (by decide +kernel)⟩
theorem lw_p24 : lw_okq (⟨"SkyLights$Foreign", "isThere", "(II)Z"⟩, 7) := ⟨⟨by decide +kernel, by decide +kernel⟩, List.mem_of_getElem? (i := 238) (by decide +kernel), List.mem_of_getElem? (i := 790) (by decide +kernel), List.mem_of_getElem? (i := 791) (by decide +kernel)⟩
theorem lw_p25 : lw_okq (⟨"SkyLights$Foreign", "isInZone", "(ILSkyLights$Air;)Z"⟩, 7) := ⟨⟨by decide +kernel, by decide +kernel⟩, List.mem_of_getElem? (i := 238) (by decide +kernel), List.mem_of_getElem? (i := 794) (by decide +kernel), List.mem_of_getElem? (i := 795) (by decide +kernel)⟩
theorem lw_p26 : lw_okq (⟨"SkyLights$Foreign", "end", "(I)I"⟩, 7) := ⟨⟨by decide +kernel, by decide +kernel⟩, List.mem_of_getElem? (i := 238) (by decide +kernel), List.mem_of_getElem? (i := 798) (by decide +kernel), List.mem_of_getElem? (i := 799) (by decide +kernel)⟩
theorem lw_p27 : lw_okq (⟨"SkyLights$Foreign", "partner", "(IILSkyLights$Air;)I"⟩, 7) := ⟨⟨by decide +kernel, by decide +kernel⟩, List.mem_of_getElem? (i := 238) (by decide +kernel), List.mem_of_getElem? (i := 803) (by decide +kernel), List.mem_of_getElem? (i := 804) (by decide +kernel)⟩
theorem lw_p28 : lw_okq (⟨"SkyLights$Foreign", "areNear", "(III)Z"⟩, 7) := ⟨⟨by decide +kernel, by decide +kernel⟩, List.mem_of_getElem? (i := 238) (by decide +kernel), List.mem_of_getElem? (i := 807) (by decide +kernel), List.mem_of_getElem? (i := 808) (by decide +kernel)⟩
theorem lw_p29 : lw_okq (⟨"SkyLights$Foreign", "goBehind", "(I)V"⟩, 7) := ⟨⟨by decide +kernel, by decide +kernel⟩, List.mem_of_getElem? (i := 238) (by decide +kernel), List.mem_of_getElem? (i := 812) (by decide +kernel), List.mem_of_getElem? (i := 813) (by decide +kernel)⟩
theorem lw_p30 : lw_okq (⟨"SkyLightsModel", "points", "()I"⟩, 53) := ⟨⟨by decide +kernel, by decide +kernel⟩, List.mem_of_getElem? (i := 832) (by decide +kernel), List.mem_of_getElem? (i := 1018) (by decide +kernel), List.mem_of_getElem? (i := 1019) (by decide +kernel)⟩
theorem lw_p31 : lw_okq (⟨"SkyLightsModel", "point", "(I)Z"⟩, 53) := ⟨⟨by decide +kernel, by decide +kernel⟩, List.mem_of_getElem? (i := 832) (by decide +kernel), List.mem_of_getElem? (i := 1022) (by decide +kernel), List.mem_of_getElem? (i := 1023) (by decide +kernel)⟩
def lw_privs_2 : List (MethodName × Nat) := [(⟨"SkyLights$Parting", "doMeet", "(II)Z"⟩, 6), (⟨"SkyLights$Parting", "keepTried", "(I)V"⟩, 6), (⟨"SkyLights$Parting", "doesFit", "(I)Z"⟩, 6), (⟨"SkyLights", "isFlyer", "(I)Z"⟩, 8), (⟨"SkyLights", "worth", "(II)I"⟩, 8), (⟨"SkyLights$Foreign", "told", "(II)I"⟩, 7), (⟨"SkyLights$Foreign", "leastTick", "()I"⟩, 7), (⟨"SkyLights$Foreign", "isClashAt", "(ILSkyLights$Air;)Z"⟩, 7), (⟨"SkyLights$Foreign", "isThere", "(II)Z"⟩, 7), (⟨"SkyLights$Foreign", "isInZone", "(ILSkyLights$Air;)Z"⟩, 7), (⟨"SkyLights$Foreign", "end", "(I)I"⟩, 7), (⟨"SkyLights$Foreign", "partner", "(IILSkyLights$Air;)I"⟩, 7), (⟨"SkyLights$Foreign", "areNear", "(III)Z"⟩, 7), (⟨"SkyLights$Foreign", "goBehind", "(I)V"⟩, 7), (⟨"SkyLightsModel", "points", "()I"⟩, 53), (⟨"SkyLightsModel", "point", "(I)Z"⟩, 53)]
theorem lw_r2 : ∀ q ∈ lw_privs_2, lw_okq q := List.forall_mem_cons.mpr ⟨lw_p16, List.forall_mem_cons.mpr ⟨lw_p17, List.forall_mem_cons.mpr ⟨lw_p18, List.forall_mem_cons.mpr ⟨lw_p19, List.forall_mem_cons.mpr ⟨lw_p20, List.forall_mem_cons.mpr ⟨lw_p21, List.forall_mem_cons.mpr ⟨lw_p22, List.forall_mem_cons.mpr ⟨lw_p23, List.forall_mem_cons.mpr ⟨lw_p24, List.forall_mem_cons.mpr ⟨lw_p25, List.forall_mem_cons.mpr ⟨lw_p26, List.forall_mem_cons.mpr ⟨lw_p27, List.forall_mem_cons.mpr ⟨lw_p28, List.forall_mem_cons.mpr ⟨lw_p29, List.forall_mem_cons.mpr ⟨lw_p30, List.forall_mem_cons.mpr ⟨lw_p31, fun _ h => absurd h List.not_mem_nil⟩⟩⟩⟩⟩⟩⟩⟩⟩⟩⟩⟩⟩⟩⟩⟩
theorem lw_p32 : lw_okq (⟨"SkyLightsModel", "number", "(Z)Z"⟩, 53) := ⟨⟨by decide +kernel, by decide +kernel⟩, List.mem_of_getElem? (i := 832) (by decide +kernel), List.mem_of_getElem? (i := 1026) (by decide +kernel), List.mem_of_getElem? (i := 1027) (by decide +kernel)⟩
theorem lw_p33 : lw_okq (⟨"SkyLightsModel", "takes", "(I)Z"⟩, 53) := ⟨⟨by decide +kernel, by decide +kernel⟩, List.mem_of_getElem? (i := 832) (by decide +kernel), List.mem_of_getElem? (i := 1030) (by decide +kernel), List.mem_of_getElem? (i := 1031) (by decide +kernel)⟩
theorem lw_p34 : lw_okq (⟨"SkyLightsModel", "sign", "()I"⟩, 53) := ⟨⟨by decide +kernel, by decide +kernel⟩, List.mem_of_getElem? (i := 832) (by decide +kernel), List.mem_of_getElem? (i := 1034) (by decide +kernel), List.mem_of_getElem? (i := 1035) (by decide +kernel)⟩
theorem lw_p35 : lw_okq (⟨"SkyLightsModel", "isFigure", "(I)Z"⟩, 53) := ⟨⟨by decide +kernel, by decide +kernel⟩, List.mem_of_getElem? (i := 832) (by decide +kernel), List.mem_of_getElem? (i := 1045) (by decide +kernel), List.mem_of_getElem? (i := 1046) (by decide +kernel)⟩
theorem lw_p36 : lw_okq (⟨"SkyLightsModel", "least", "(I)I"⟩, 53) := ⟨⟨by decide +kernel, by decide +kernel⟩, List.mem_of_getElem? (i := 832) (by decide +kernel), List.mem_of_getElem? (i := 1050) (by decide +kernel), List.mem_of_getElem? (i := 1051) (by decide +kernel)⟩
theorem lw_p37 : lw_okq (⟨"SkyLightsModel", "apart", "(II)I"⟩, 53) := ⟨⟨by decide +kernel, by decide +kernel⟩, List.mem_of_getElem? (i := 832) (by decide +kernel), List.mem_of_getElem? (i := 1054) (by decide +kernel), List.mem_of_getElem? (i := 1055) (by decide +kernel)⟩
theorem lw_p38 : lw_okq (⟨"SkyLightsModel", "begins", "(IIII)V"⟩, 53) := ⟨⟨by decide +kernel, by decide +kernel⟩, List.mem_of_getElem? (i := 832) (by decide +kernel), List.mem_of_getElem? (i := 1079) (by decide +kernel), List.mem_of_getElem? (i := 1080) (by decide +kernel)⟩
theorem lw_p39 : lw_okq (⟨"SkyLightsModel", "assigns", "(I)I"⟩, 53) := ⟨⟨by decide +kernel, by decide +kernel⟩, List.mem_of_getElem? (i := 832) (by decide +kernel), List.mem_of_getElem? (i := 1083) (by decide +kernel), List.mem_of_getElem? (i := 1084) (by decide +kernel)⟩
theorem lw_p40 : lw_okq (⟨"SkyLightsModel", "isOfPass", "(I)Z"⟩, 53) := ⟨⟨by decide +kernel, by decide +kernel⟩, List.mem_of_getElem? (i := 832) (by decide +kernel), List.mem_of_getElem? (i := 1098) (by decide +kernel), List.mem_of_getElem? (i := 1099) (by decide +kernel)⟩
theorem lw_p41 : lw_okq (⟨"SkyLightsModel", "clash", "(III)Z"⟩, 53) := ⟨⟨by decide +kernel, by decide +kernel⟩, List.mem_of_getElem? (i := 832) (by decide +kernel), List.mem_of_getElem? (i := 1111) (by decide +kernel), List.mem_of_getElem? (i := 1112) (by decide +kernel)⟩
theorem lw_p42 : lw_okq (⟨"SkyLightsModel", "placeX", "(III)I"⟩, 53) := ⟨⟨by decide +kernel, by decide +kernel⟩, List.mem_of_getElem? (i := 832) (by decide +kernel), List.mem_of_getElem? (i := 1115) (by decide +kernel), List.mem_of_getElem? (i := 1116) (by decide +kernel)⟩
theorem lw_p43 : lw_okq (⟨"SkyLightsModel", "gone", "(III)I"⟩, 53) := ⟨⟨by decide +kernel, by decide +kernel⟩, List.mem_of_getElem? (i := 832) (by decide +kernel), List.mem_of_getElem? (i := 1119) (by decide +kernel), List.mem_of_getElem? (i := 1120) (by decide +kernel)⟩
theorem lw_p44 : lw_okq (⟨"SkyLightsModel", "placeY", "(III)I"⟩, 53) := ⟨⟨by decide +kernel, by decide +kernel⟩, List.mem_of_getElem? (i := 832) (by decide +kernel), List.mem_of_getElem? (i := 1123) (by decide +kernel), List.mem_of_getElem? (i := 1124) (by decide +kernel)⟩
theorem lw_p45 : lw_okq (⟨"SkyLightsModel", "placeZ", "(III)I"⟩, 53) := ⟨⟨by decide +kernel, by decide +kernel⟩, List.mem_of_getElem? (i := 832) (by decide +kernel), List.mem_of_getElem? (i := 1127) (by decide +kernel), List.mem_of_getElem? (i := 1128) (by decide +kernel)⟩
theorem lw_p46 : lw_okq (⟨"SkyLightsModel", "enters", "(II)Z"⟩, 53) := ⟨⟨by decide +kernel, by decide +kernel⟩, List.mem_of_getElem? (i := 832) (by decide +kernel), List.mem_of_getElem? (i := 1138) (by decide +kernel), List.mem_of_getElem? (i := 1139) (by decide +kernel)⟩
theorem lw_p47 : lw_okq (⟨"SkyLightsModel", "isClean", "(I)Z"⟩, 53) := ⟨⟨by decide +kernel, by decide +kernel⟩, List.mem_of_getElem? (i := 832) (by decide +kernel), List.mem_of_getElem? (i := 1146) (by decide +kernel), List.mem_of_getElem? (i := 1147) (by decide +kernel)⟩
def lw_privs_3 : List (MethodName × Nat) := [(⟨"SkyLightsModel", "number", "(Z)Z"⟩, 53), (⟨"SkyLightsModel", "takes", "(I)Z"⟩, 53), (⟨"SkyLightsModel", "sign", "()I"⟩, 53), (⟨"SkyLightsModel", "isFigure", "(I)Z"⟩, 53), (⟨"SkyLightsModel", "least", "(I)I"⟩, 53), (⟨"SkyLightsModel", "apart", "(II)I"⟩, 53), (⟨"SkyLightsModel", "begins", "(IIII)V"⟩, 53), (⟨"SkyLightsModel", "assigns", "(I)I"⟩, 53), (⟨"SkyLightsModel", "isOfPass", "(I)Z"⟩, 53), (⟨"SkyLightsModel", "clash", "(III)Z"⟩, 53), (⟨"SkyLightsModel", "placeX", "(III)I"⟩, 53), (⟨"SkyLightsModel", "gone", "(III)I"⟩, 53), (⟨"SkyLightsModel", "placeY", "(III)I"⟩, 53), (⟨"SkyLightsModel", "placeZ", "(III)I"⟩, 53), (⟨"SkyLightsModel", "enters", "(II)Z"⟩, 53), (⟨"SkyLightsModel", "isClean", "(I)Z"⟩, 53)]
theorem lw_r3 : ∀ q ∈ lw_privs_3, lw_okq q := List.forall_mem_cons.mpr ⟨lw_p32, List.forall_mem_cons.mpr ⟨lw_p33, List.forall_mem_cons.mpr ⟨lw_p34, List.forall_mem_cons.mpr ⟨lw_p35, List.forall_mem_cons.mpr ⟨lw_p36, List.forall_mem_cons.mpr ⟨lw_p37, List.forall_mem_cons.mpr ⟨lw_p38, List.forall_mem_cons.mpr ⟨lw_p39, List.forall_mem_cons.mpr ⟨lw_p40, List.forall_mem_cons.mpr ⟨lw_p41, List.forall_mem_cons.mpr ⟨lw_p42, List.forall_mem_cons.mpr ⟨lw_p43, List.forall_mem_cons.mpr ⟨lw_p44, List.forall_mem_cons.mpr ⟨lw_p45, List.forall_mem_cons.mpr ⟨lw_p46, List.forall_mem_cons.mpr ⟨lw_p47, fun _ h => absurd h List.not_mem_nil⟩⟩⟩⟩⟩⟩⟩⟩⟩⟩⟩⟩⟩⟩⟩⟩
theorem lw_p48 : lw_okq (⟨"SkyLightsModel", "waits", "(II)V"⟩, 53) := ⟨⟨by decide +kernel, by decide +kernel⟩, List.mem_of_getElem? (i := 832) (by decide +kernel), List.mem_of_getElem? (i := 1157) (by decide +kernel), List.mem_of_getElem? (i := 1158) (by decide +kernel)⟩
theorem lw_p49 : lw_okq (⟨"SkyLightsModel", "looksAt", "(I)V"⟩, 53) := ⟨⟨by decide +kernel, by decide +kernel⟩, List.mem_of_getElem? (i := 832) (by decide +kernel), List.mem_of_getElem? (i := 1165) (by decide +kernel), List.mem_of_getElem? (i := 1166) (by decide +kernel)⟩
theorem lw_p50 : lw_okq (⟨"SkyLightsModel", "pointAhead", "(II)I"⟩, 53) := ⟨⟨by decide +kernel, by decide +kernel⟩, List.mem_of_getElem? (i := 832) (by decide +kernel), List.mem_of_getElem? (i := 1169) (by decide +kernel), List.mem_of_getElem? (i := 1170) (by decide +kernel)⟩
theorem lw_p51 : lw_okq (⟨"SkyLightsModel", "isFlyer", "(I)Z"⟩, 53) := ⟨⟨by decide +kernel, by decide +kernel⟩, List.mem_of_getElem? (i := 832) (by decide +kernel), List.mem_of_getElem? (i := 1177) (by decide +kernel), List.mem_of_getElem? (i := 1178) (by decide +kernel)⟩
theorem lw_p52 : lw_okq (⟨"SkyLightsModel", "isScene", "(I)Z"⟩, 53) := ⟨⟨by decide +kernel, by decide +kernel⟩, List.mem_of_getElem? (i := 832) (by decide +kernel), List.mem_of_getElem? (i := 1181) (by decide +kernel), List.mem_of_getElem? (i := 1182) (by decide +kernel)⟩
theorem lw_p53 : lw_okq (⟨"SkyLightsModel", "leftTo", "(I)I"⟩, 53) := ⟨⟨by decide +kernel, by decide +kernel⟩, List.mem_of_getElem? (i := 832) (by decide +kernel), List.mem_of_getElem? (i := 1197) (by decide +kernel), List.mem_of_getElem? (i := 1198) (by decide +kernel)⟩
theorem lw_p54 : lw_okq (⟨"SkyLightsModel", "heightIn", "(II)I"⟩, 53) := ⟨⟨by decide +kernel, by decide +kernel⟩, List.mem_of_getElem? (i := 832) (by decide +kernel), List.mem_of_getElem? (i := 1201) (by decide +kernel), List.mem_of_getElem? (i := 1202) (by decide +kernel)⟩
theorem lw_p55 : lw_okq (⟨"SkyLightsModel", "worthAt", "(II)I"⟩, 53) := ⟨⟨by decide +kernel, by decide +kernel⟩, List.mem_of_getElem? (i := 832) (by decide +kernel), List.mem_of_getElem? (i := 1228) (by decide +kernel), List.mem_of_getElem? (i := 1229) (by decide +kernel)⟩
theorem lw_p56 : lw_okq (⟨"SkyLightsModel", "findClash", "(I)Z"⟩, 53) := ⟨⟨by decide +kernel, by decide +kernel⟩, List.mem_of_getElem? (i := 832) (by decide +kernel), List.mem_of_getElem? (i := 1245) (by decide +kernel), List.mem_of_getElem? (i := 1246) (by decide +kernel)⟩
theorem lw_p57 : lw_okq (⟨"SkyLightsModel", "markOf", "(II)I"⟩, 53) := ⟨⟨by decide +kernel, by decide +kernel⟩, List.mem_of_getElem? (i := 832) (by decide +kernel), List.mem_of_getElem? (i := 1249) (by decide +kernel), List.mem_of_getElem? (i := 1250) (by decide +kernel)⟩
theorem lw_p58 : lw_okq (⟨"SkyLightsModel", "isInZone", "(I)Z"⟩, 53) := ⟨⟨by decide +kernel, by decide +kernel⟩, List.mem_of_getElem? (i := 832) (by decide +kernel), List.mem_of_getElem? (i := 1253) (by decide +kernel), List.mem_of_getElem? (i := 1254) (by decide +kernel)⟩
theorem lw_p59 : lw_okq (⟨"SkyLightsModel", "areNear", "(II)Z"⟩, 53) := ⟨⟨by decide +kernel, by decide +kernel⟩, List.mem_of_getElem? (i := 832) (by decide +kernel), List.mem_of_getElem? (i := 1257) (by decide +kernel), List.mem_of_getElem? (i := 1258) (by decide +kernel)⟩
def lw_privs_4 : List (MethodName × Nat) := [(⟨"SkyLightsModel", "waits", "(II)V"⟩, 53), (⟨"SkyLightsModel", "looksAt", "(I)V"⟩, 53), (⟨"SkyLightsModel", "pointAhead", "(II)I"⟩, 53), (⟨"SkyLightsModel", "isFlyer", "(I)Z"⟩, 53), (⟨"SkyLightsModel", "isScene", "(I)Z"⟩, 53), (⟨"SkyLightsModel", "leftTo", "(I)I"⟩, 53), (⟨"SkyLightsModel", "heightIn", "(II)I"⟩, 53), (⟨"SkyLightsModel", "worthAt", "(II)I"⟩, 53), (⟨"SkyLightsModel", "findClash", "(I)Z"⟩, 53), (⟨"SkyLightsModel", "markOf", "(II)I"⟩, 53), (⟨"SkyLightsModel", "isInZone", "(I)Z"⟩, 53), (⟨"SkyLightsModel", "areNear", "(II)Z"⟩, 53)]
theorem lw_r4 : ∀ q ∈ lw_privs_4, lw_okq q := List.forall_mem_cons.mpr ⟨lw_p48, List.forall_mem_cons.mpr ⟨lw_p49, List.forall_mem_cons.mpr ⟨lw_p50, List.forall_mem_cons.mpr ⟨lw_p51, List.forall_mem_cons.mpr ⟨lw_p52, List.forall_mem_cons.mpr ⟨lw_p53, List.forall_mem_cons.mpr ⟨lw_p54, List.forall_mem_cons.mpr ⟨lw_p55, List.forall_mem_cons.mpr ⟨lw_p56, List.forall_mem_cons.mpr ⟨lw_p57, List.forall_mem_cons.mpr ⟨lw_p58, List.forall_mem_cons.mpr ⟨lw_p59, fun _ h => absurd h List.not_mem_nil⟩⟩⟩⟩⟩⟩⟩⟩⟩⟩⟩⟩
def lw_privs : List (MethodName × Nat) := lw_privs_1 ++ (lw_privs_2 ++ (lw_privs_3 ++ (lw_privs_4)))
def lw_tbl : List Cond := k2_sels lw_privs ++ tables_1
theorem lw_privs_ok : ∀ q ∈ lw_privs, lw_okq q := by
  show ∀ q ∈ lw_privs_1 ++ (lw_privs_2 ++ (lw_privs_3 ++ (lw_privs_4))), lw_okq q
  exact List.forall_mem_append.mpr ⟨lw_r1, List.forall_mem_append.mpr ⟨lw_r2, List.forall_mem_append.mpr ⟨lw_r3, lw_r4⟩⟩⟩
-- ===== end of PART A; then your names; then what follows =====
end
section
/-! ===== BEGIN words of one list among another's, by their places ===== -/
theorem goodIn_r {big : List Cond} (ws : List Cond) (ps : List Nat) (hp : ws = ps.filterMap (fun i => big[i]?)) (h : ws.all goodWord = true) : GoodIn big ws := by
  intro w hw
  have h1 := List.all_eq_true.mp h w hw
  rw [hp] at hw
  obtain ⟨i, -, hi⟩ := List.mem_filterMap.mp hw
  have hm : w ∈ big := by first | exact List.mem_of_getElem? hi | exact List.getElem?_mem hi
  exact ⟨hm, good_of_word h1⟩
theorem goodIn_app {big a b : List Cond} (ha : GoodIn big a) (hb : GoodIn big b) : GoodIn big (a ++ b) := fun w h => (List.mem_append.mp h).elim (ha w) (hb w)
theorem goodIn_ca {big a b : List Cond} {c : Cond} (ha : GoodIn big (c :: a)) (hb : GoodIn big b) : GoodIn big (c :: (a ++ b)) := fun w h => (List.mem_cons.mp h).elim (fun e => ha w (List.mem_cons.mpr (Or.inl e))) (fun h => (List.mem_append.mp h).elim (fun h => ha w (List.mem_cons.mpr (Or.inr h))) (hb w))
theorem goodIn_sub {big ws : List Cond} (hm : ∀ w ∈ ws, w ∈ big) (h : ws.all goodWord = true) : GoodIn big ws := fun w hw => ⟨hm w hw, good_of_word (List.all_eq_true.mp h w hw)⟩
/-! ===== END ===== -/

/-! ===== BEGIN printed: names, fields, word lists, decode rows ===== -/
def RX0 : String := "SkyLights$Air"
def TX0 : u_T := fun k => match k with
  | 0 => ("SkyLights$Air", "gap", "I", false)
  | 1 => ("SkyLights$Air", "zoneX", "I", false)
  | 2 => ("SkyLights$Air", "zoneY", "I", false)
  | _ => ("SkyLights$Air", "radius", "I", false)
def tyX0 : Nat → FieldType := fun k => match k with
  | 0 => .int
  | 1 => .int
  | 2 => .int
  | _ => .int
abbrev wsX00 : List Cond := u_ws RX0 TX0 4
theorem nmX0 : ∀ a, a < 4 → ∀ b, b < 4 → a ≠ b → (TX0 a).2.1 ≠ (TX0 b).2.1 := by decide +kernel
theorem tyX0_ok : ∀ k, k < 4 → parseFieldDescriptor (TX0 k).2.2.1 = some (tyX0 k) := by decide +kernel
abbrev cX0_init : ByteArray := prog_2_method_1_code
def yX0_init : MethodName := ⟨RX0, "<init>", "()V"⟩
abbrev cX0_isLoose : ByteArray := prog_2_method_2_code
def yX0_isLoose : MethodName := ⟨RX0, "isLoose", "(LSkyLights$Places;)Z"⟩
abbrev cX0_isInZone : ByteArray := prog_2_method_3_code
def yX0_isInZone : MethodName := ⟨RX0, "isInZone", "(IIII)Z"⟩
abbrev cX0_isNearer : ByteArray := prog_2_method_4_code
def yX0_isNearer : MethodName := ⟨RX0, "isNearer", "(JJJJJJJ)Z"⟩
def RX1 : String := "SkyLights$Foreign"
def TX1 : u_T := fun k => match k with
  | 0 => ("SkyLights$Foreign", "cells", "LSkyLights$Row;", true)
  | 1 => ("SkyLights$Foreign", "heads", "LSkyLights$Row;", true)
  | 2 => ("SkyLights$Foreign", "tails", "LSkyLights$Row;", true)
  | 3 => ("SkyLights$Foreign", "cursors", "LSkyLights$Row;", true)
  | 4 => ("SkyLights$Foreign", "size", "I", false)
  | 5 => ("SkyLights$Foreign", "one", "I", false)
  | _ => ("SkyLights$Foreign", "other", "I", false)
def tyX1 : Nat → FieldType := fun k => match k with
  | 0 => .object "SkyLights$Row"
  | 1 => .object "SkyLights$Row"
  | 2 => .object "SkyLights$Row"
  | 3 => .object "SkyLights$Row"
  | 4 => .int
  | 5 => .int
  | _ => .int
abbrev wsX10 : List Cond := u_ws RX1 TX1 7
theorem nmX1 : ∀ a, a < 7 → ∀ b, b < 7 → a ≠ b → (TX1 a).2.1 ≠ (TX1 b).2.1 := by decide +kernel
theorem tyX1_ok : ∀ k, k < 7 → parseFieldDescriptor (TX1 k).2.2.1 = some (tyX1 k) := by decide +kernel
abbrev cX1_init : ByteArray := prog_3_method_1_code
def yX1_init : MethodName := ⟨RX1, "<init>", "()V"⟩
abbrev cX1_size : ByteArray := prog_3_method_2_code
def yX1_size : MethodName := ⟨RX1, "size", "()I"⟩
abbrev cX1_empty : ByteArray := prog_3_method_3_code
def yX1_empty : MethodName := ⟨RX1, "empty", "()V"⟩
abbrev cX1_isBehind : ByteArray := prog_3_method_4_code
def yX1_isBehind : MethodName := ⟨RX1, "isBehind", "(II)Z"⟩
abbrev cX1_add : ByteArray := prog_3_method_5_code
def yX1_add : MethodName := ⟨RX1, "add", "(IIIII)V"⟩
abbrev cX1_firstClash : ByteArray := prog_3_method_6_code
def yX1_firstClash : MethodName := ⟨RX1, "firstClash", "(LSkyLights$Air;)I"⟩
abbrev cX1_leastTick : ByteArray := prog_3_method_7_code
def yX1_leastTick : MethodName := ⟨RX1, "leastTick", "()I"⟩
abbrev cX1_goBehind : ByteArray := prog_3_method_8_code
def yX1_goBehind : MethodName := ⟨RX1, "goBehind", "(I)V"⟩
abbrev cX1_isClashAt : ByteArray := prog_3_method_9_code
def yX1_isClashAt : MethodName := ⟨RX1, "isClashAt", "(ILSkyLights$Air;)Z"⟩
abbrev cX1_partner : ByteArray := prog_3_method_10_code
def yX1_partner : MethodName := ⟨RX1, "partner", "(IILSkyLights$Air;)I"⟩
abbrev cX1_isThere : ByteArray := prog_3_method_11_code
def yX1_isThere : MethodName := ⟨RX1, "isThere", "(II)Z"⟩
abbrev cX1_isInZone : ByteArray := prog_3_method_12_code
def yX1_isInZone : MethodName := ⟨RX1, "isInZone", "(ILSkyLights$Air;)Z"⟩
abbrev cX1_areNear : ByteArray := prog_3_method_13_code
def yX1_areNear : MethodName := ⟨RX1, "areNear", "(III)Z"⟩
abbrev cX1_end : ByteArray := prog_3_method_14_code
def yX1_end : MethodName := ⟨RX1, "end", "(I)I"⟩
abbrev cX1_told : ByteArray := prog_3_method_15_code
def yX1_told : MethodName := ⟨RX1, "told", "(II)I"⟩
def RX2 : String := "SkyLights$Gallery"
def TX2 : u_T := fun k => match k with
  | 0 => ("SkyLights$Gallery", "pads", "LSkyLights$Places;", true)
  | 1 => ("SkyLights$Gallery", "figures", "[LSkyLights$Places;", true)
  | 2 => ("SkyLights$Gallery", "nothing", "LSkyLights$Places;", true)
  | _ => ("SkyLights$Gallery", "size", "I", false)
def tyX2 : Nat → FieldType := fun k => match k with
  | 0 => .object "SkyLights$Places"
  | 1 => .array (.object "SkyLights$Places")
  | 2 => .object "SkyLights$Places"
  | _ => .int
abbrev wsX20 : List Cond := u_ws RX2 TX2 4
theorem nmX2 : ∀ a, a < 4 → ∀ b, b < 4 → a ≠ b → (TX2 a).2.1 ≠ (TX2 b).2.1 := by decide +kernel
theorem tyX2_ok : ∀ k, k < 4 → parseFieldDescriptor (TX2 k).2.2.1 = some (tyX2 k) := by decide +kernel
abbrev cX2_init : ByteArray := prog_4_method_1_code
def yX2_init : MethodName := ⟨RX2, "<init>", "()V"⟩
abbrev cX2_size : ByteArray := prog_4_method_2_code
def yX2_size : MethodName := ⟨RX2, "size", "()I"⟩
abbrev cX2_has : ByteArray := prog_4_method_3_code
def yX2_has : MethodName := ⟨RX2, "has", "(I)Z"⟩
abbrev cX2_at : ByteArray := prog_4_method_4_code
def yX2_at : MethodName := ⟨RX2, "at", "(I)LSkyLights$Places;"⟩
abbrev cX2_spare : ByteArray := prog_4_method_5_code
def yX2_spare : MethodName := ⟨RX2, "spare", "()LSkyLights$Places;"⟩
abbrev cX2_keepSpare : ByteArray := prog_4_method_6_code
def yX2_keepSpare : MethodName := ⟨RX2, "keepSpare", "()I"⟩
def RX3 : String := "SkyLights$Parting"
def TX3 : u_T := fun k => match k with
  | 0 => ("SkyLights$Parting", "meetings", "LSkyLights$Row;", true)
  | 1 => ("SkyLights$Parting", "tried", "LSkyLights$Row;", true)
  | 2 => ("SkyLights$Parting", "least", "LSkyLights$Row;", true)
  | 3 => ("SkyLights$Parting", "size", "I", false)
  | 4 => ("SkyLights$Parting", "free", "I", false)
  | _ => ("SkyLights$Parting", "leastSum", "I", false)
def tyX3 : Nat → FieldType := fun k => match k with
  | 0 => .object "SkyLights$Row"
  | 1 => .object "SkyLights$Row"
  | 2 => .object "SkyLights$Row"
  | 3 => .int
  | 4 => .int
  | _ => .int
abbrev wsX30 : List Cond := u_ws RX3 TX3 6
theorem nmX3 : ∀ a, a < 6 → ∀ b, b < 6 → a ≠ b → (TX3 a).2.1 ≠ (TX3 b).2.1 := by decide +kernel
theorem tyX3_ok : ∀ k, k < 6 → parseFieldDescriptor (TX3 k).2.2.1 = some (tyX3 k) := by decide +kernel
abbrev cX3_init : ByteArray := prog_5_method_1_code
def yX3_init : MethodName := ⟨RX3, "<init>", "()V"⟩
abbrev cX3_settle : ByteArray := prog_5_method_2_code
def yX3_settle : MethodName := ⟨RX3, "settle", "(LSkyLights$Pass;I)I"⟩
abbrev cX3_noteMeetings : ByteArray := prog_5_method_3_code
def yX3_noteMeetings : MethodName := ⟨RX3, "noteMeetings", "(LSkyLights$Pass;I)V"⟩
abbrev cX3_doOthersFit : ByteArray := prog_5_method_4_code
def yX3_doOthersFit : MethodName := ⟨RX3, "doOthersFit", "()Z"⟩
abbrev cX3_search : ByteArray := prog_5_method_5_code
def yX3_search : MethodName := ⟨RX3, "search", "(LSkyLights$Parting;II)V"⟩
abbrev cX3_keepTried : ByteArray := prog_5_method_6_code
def yX3_keepTried : MethodName := ⟨RX3, "keepTried", "(I)V"⟩
abbrev cX3_doesFit : ByteArray := prog_5_method_7_code
def yX3_doesFit : MethodName := ⟨RX3, "doesFit", "(I)Z"⟩
abbrev cX3_doMeet : ByteArray := prog_5_method_8_code
def yX3_doMeet : MethodName := ⟨RX3, "doMeet", "(II)Z"⟩
def RX4 : String := "SkyLights$Pass"
def TX4 : u_T := fun k => match k with
  | 0 => ("SkyLights$Pass", "cells", "LSkyLights$Row;", true)
  | 1 => ("SkyLights$Pass", "size", "I", false)
  | _ => ("SkyLights$Pass", "ticks", "I", false)
def tyX4 : Nat → FieldType := fun k => match k with
  | 0 => .object "SkyLights$Row"
  | 1 => .int
  | _ => .int
abbrev wsX40 : List Cond := u_ws RX4 TX4 3
theorem nmX4 : ∀ a, a < 3 → ∀ b, b < 3 → a ≠ b → (TX4 a).2.1 ≠ (TX4 b).2.1 := by decide +kernel
theorem tyX4_ok : ∀ k, k < 3 → parseFieldDescriptor (TX4 k).2.2.1 = some (tyX4 k) := by decide +kernel
abbrev cX4_init : ByteArray := prog_6_method_1_code
def yX4_init : MethodName := ⟨RX4, "<init>", "()V"⟩
abbrev cX4_size : ByteArray := prog_6_method_2_code
def yX4_size : MethodName := ⟨RX4, "size", "()I"⟩
abbrev cX4_has : ByteArray := prog_6_method_3_code
def yX4_has : MethodName := ⟨RX4, "has", "(I)Z"⟩
abbrev cX4_ticks : ByteArray := prog_6_method_4_code
def yX4_ticks : MethodName := ⟨RX4, "ticks", "()I"⟩
abbrev cX4_goal : ByteArray := prog_6_method_5_code
def yX4_goal : MethodName := ⟨RX4, "goal", "(I)I"⟩
abbrev cX4_delayOf : ByteArray := prog_6_method_6_code
def yX4_delayOf : MethodName := ⟨RX4, "delayOf", "(I)I"⟩
abbrev cX4_setDelay : ByteArray := prog_6_method_7_code
def yX4_setDelay : MethodName := ⟨RX4, "setDelay", "(II)V"⟩
abbrev cX4_lead : ByteArray := prog_6_method_8_code
def yX4_lead : MethodName := ⟨RX4, "lead", "(LSkyLights$Places;LSkyLights$Places;ILSkyLights$Planner;)I"⟩
abbrev cX4_charge : ByteArray := prog_6_method_9_code
def yX4_charge : MethodName := ⟨RX4, "charge", "(I)I"⟩
abbrev cX4_isInZone : ByteArray := prog_6_method_10_code
def yX4_isInZone : MethodName := ⟨RX4, "isInZone", "(ILSkyLights$Air;)Z"⟩
abbrev cX4_isAnyInZone : ByteArray := prog_6_method_11_code
def yX4_isAnyInZone : MethodName := ⟨RX4, "isAnyInZone", "(LSkyLights$Air;)Z"⟩
abbrev cX4_isClean : ByteArray := prog_6_method_12_code
def yX4_isClean : MethodName := ⟨RX4, "isClean", "(LSkyLights$Air;)Z"⟩
abbrev cX4_meet : ByteArray := prog_6_method_13_code
def yX4_meet : MethodName := ⟨RX4, "meet", "(IIII)Z"⟩
abbrev cX4_meetBetween : ByteArray := prog_6_method_14_code
def yX4_meetBetween : MethodName := ⟨RX4, "meetBetween", "(IIIIII)Z"⟩
abbrev cX4_apart : ByteArray := prog_6_method_15_code
def yX4_apart : MethodName := ⟨RX4, "apart", "(IIIII)I"⟩
abbrev cX4_under : ByteArray := prog_6_method_16_code
def yX4_under : MethodName := ⟨RX4, "under", "(I)I"⟩
def RX5 : String := "SkyLights$Places"
def TX5 : u_T := fun k => match k with
  | 0 => ("SkyLights$Places", "cells", "LSkyLights$Row;", true)
  | _ => ("SkyLights$Places", "size", "I", false)
def tyX5 : Nat → FieldType := fun k => match k with
  | 0 => .object "SkyLights$Row"
  | _ => .int
abbrev wsX50 : List Cond := u_ws RX5 TX5 2
theorem nmX5 : ∀ a, a < 2 → ∀ b, b < 2 → a ≠ b → (TX5 a).2.1 ≠ (TX5 b).2.1 := by decide +kernel
theorem tyX5_ok : ∀ k, k < 2 → parseFieldDescriptor (TX5 k).2.2.1 = some (tyX5 k) := by decide +kernel
abbrev cX5_init : ByteArray := prog_7_method_1_code
def yX5_init : MethodName := ⟨RX5, "<init>", "()V"⟩
abbrev cX5_size : ByteArray := prog_7_method_2_code
def yX5_size : MethodName := ⟨RX5, "size", "()I"⟩
abbrev cX5_has : ByteArray := prog_7_method_3_code
def yX5_has : MethodName := ⟨RX5, "has", "(I)Z"⟩
abbrev cX5_empty : ByteArray := prog_7_method_4_code
def yX5_empty : MethodName := ⟨RX5, "empty", "()V"⟩
abbrev cX5_add : ByteArray := prog_7_method_5_code
def yX5_add : MethodName := ⟨RX5, "add", "(IIII)V"⟩
abbrev cX5_told : ByteArray := prog_7_method_6_code
def yX5_told : MethodName := ⟨RX5, "told", "(II)I"⟩
abbrev cX5_way : ByteArray := prog_7_method_7_code
def yX5_way : MethodName := ⟨RX5, "way", "(ILSkyLights$Places;I)I"⟩
abbrev cX5_leastWay : ByteArray := prog_7_method_8_code
def yX5_leastWay : MethodName := ⟨RX5, "leastWay", "()I"⟩
def RX6 : String := "SkyLights$Planner"
def TX6 : u_T := fun k => match k with
  | 0 => ("SkyLights$Planner", "ways", "LSkyLights$Row;", true)
  | 1 => ("SkyLights$Planner", "needs", "LSkyLights$Row;", true)
  | _ => ("SkyLights$Planner", "goals", "LSkyLights$Row;", true)
def tyX6 : Nat → FieldType := fun k => match k with
  | 0 => .object "SkyLights$Row"
  | 1 => .object "SkyLights$Row"
  | _ => .object "SkyLights$Row"
abbrev wsX60 : List Cond := u_ws RX6 TX6 3
theorem nmX6 : ∀ a, a < 3 → ∀ b, b < 3 → a ≠ b → (TX6 a).2.1 ≠ (TX6 b).2.1 := by decide +kernel
theorem tyX6_ok : ∀ k, k < 3 → parseFieldDescriptor (TX6 k).2.2.1 = some (tyX6 k) := by decide +kernel
abbrev cX6_init : ByteArray := prog_8_method_1_code
def yX6_init : MethodName := ⟨RX6, "<init>", "()V"⟩
abbrev cX6_goal : ByteArray := prog_8_method_2_code
def yX6_goal : MethodName := ⟨RX6, "goal", "(I)I"⟩
abbrev cX6_plan : ByteArray := prog_8_method_3_code
def yX6_plan : MethodName := ⟨RX6, "plan", "(LSkyLights$Places;LSkyLights$Places;)I"⟩
abbrev cX6_weigh : ByteArray := prog_8_method_4_code
def yX6_weigh : MethodName := ⟨RX6, "weigh", "(I)V"⟩
abbrev cX6_choose : ByteArray := prog_8_method_5_code
def yX6_choose : MethodName := ⟨RX6, "choose", "(I)V"⟩
abbrev cX6_leastGoal : ByteArray := prog_8_method_6_code
def yX6_leastGoal : MethodName := ⟨RX6, "leastGoal", "(II)I"⟩
abbrev cX6_needWith : ByteArray := prog_8_method_7_code
def yX6_needWith : MethodName := ⟨RX6, "needWith", "(II)I"⟩
def RX7 : String := "SkyLights$Row"
def TX7 : u_T := fun k => match k with
  | _ => ("SkyLights$Row", "cells", "[I", true)
def tyX7 : Nat → FieldType := fun k => match k with
  | _ => .array .int
abbrev wsX70 : List Cond := u_ws RX7 TX7 1
theorem nmX7 : ∀ a, a < 1 → ∀ b, b < 1 → a ≠ b → (TX7 a).2.1 ≠ (TX7 b).2.1 := by decide +kernel
theorem tyX7_ok : ∀ k, k < 1 → parseFieldDescriptor (TX7 k).2.2.1 = some (tyX7 k) := by decide +kernel
abbrev cX7_init : ByteArray := prog_9_method_1_code
def yX7_init : MethodName := ⟨RX7, "<init>", "(I)V"⟩
abbrev cX7_at : ByteArray := prog_9_method_2_code
def yX7_at : MethodName := ⟨RX7, "at", "(I)I"⟩
abbrev cX7_put : ByteArray := prog_9_method_3_code
def yX7_put : MethodName := ⟨RX7, "put", "(II)V"⟩
abbrev cX7_fill : ByteArray := prog_9_method_4_code
def yX7_fill : MethodName := ⟨RX7, "fill", "(I)V"⟩
def RX8 : String := "SkyLights$Scene"
def TX8 : u_T := fun k => match k with
  | 0 => ("SkyLights$Scene", "way", "LSkyLights$Pass;", true)
  | 1 => ("SkyLights$Scene", "home", "LSkyLights$Pass;", true)
  | 2 => ("SkyLights$Scene", "figure", "I", false)
  | 3 => ("SkyLights$Scene", "hold", "I", false)
  | _ => ("SkyLights$Scene", "cue", "I", false)
def tyX8 : Nat → FieldType := fun k => match k with
  | 0 => .object "SkyLights$Pass"
  | 1 => .object "SkyLights$Pass"
  | 2 => .int
  | 3 => .int
  | _ => .int
abbrev wsX80 : List Cond := u_ws RX8 TX8 5
theorem nmX8 : ∀ a, a < 5 → ∀ b, b < 5 → a ≠ b → (TX8 a).2.1 ≠ (TX8 b).2.1 := by decide +kernel
theorem tyX8_ok : ∀ k, k < 5 → parseFieldDescriptor (TX8 k).2.2.1 = some (tyX8 k) := by decide +kernel
abbrev cX8_init : ByteArray := prog_10_method_1_code
def yX8_init : MethodName := ⟨RX8, "<init>", "()V"⟩
abbrev cX8_ticks : ByteArray := prog_10_method_2_code
def yX8_ticks : MethodName := ⟨RX8, "ticks", "()I"⟩
def RX9 : String := "SkyLights$Show"
def TX9 : u_T := fun k => match k with
  | 0 => ("SkyLights$Show", "scenes", "[LSkyLights$Scene;", true)
  | 1 => ("SkyLights$Show", "nothing", "LSkyLights$Scene;", true)
  | 2 => ("SkyLights$Show", "charges", "LSkyLights$Row;", true)
  | 3 => ("SkyLights$Show", "size", "I", false)
  | _ => ("SkyLights$Show", "margin", "I", false)
def tyX9 : Nat → FieldType := fun k => match k with
  | 0 => .array (.object "SkyLights$Scene")
  | 1 => .object "SkyLights$Scene"
  | 2 => .object "SkyLights$Row"
  | 3 => .int
  | _ => .int
abbrev wsX90 : List Cond := u_ws RX9 TX9 5
theorem nmX9 : ∀ a, a < 5 → ∀ b, b < 5 → a ≠ b → (TX9 a).2.1 ≠ (TX9 b).2.1 := by decide +kernel
theorem tyX9_ok : ∀ k, k < 5 → parseFieldDescriptor (TX9 k).2.2.1 = some (tyX9 k) := by decide +kernel
abbrev cX9_init : ByteArray := prog_11_method_1_code
def yX9_init : MethodName := ⟨RX9, "<init>", "()V"⟩
abbrev cX9_size : ByteArray := prog_11_method_2_code
def yX9_size : MethodName := ⟨RX9, "size", "()I"⟩
abbrev cX9_has : ByteArray := prog_11_method_3_code
def yX9_has : MethodName := ⟨RX9, "has", "(I)Z"⟩
abbrev cX9_at : ByteArray := prog_11_method_4_code
def yX9_at : MethodName := ⟨RX9, "at", "(I)LSkyLights$Scene;"⟩
abbrev cX9_spare : ByteArray := prog_11_method_5_code
def yX9_spare : MethodName := ⟨RX9, "spare", "()LSkyLights$Scene;"⟩
abbrev cX9_keepSpare : ByteArray := prog_11_method_6_code
def yX9_keepSpare : MethodName := ⟨RX9, "keepSpare", "()I"⟩
abbrev cX9_dropLast : ByteArray := prog_11_method_7_code
def yX9_dropLast : MethodName := ⟨RX9, "dropLast", "()V"⟩
abbrev cX9_load : ByteArray := prog_11_method_8_code
def yX9_load : MethodName := ⟨RX9, "load", "(II)V"⟩
abbrev cX9_lastFigure : ByteArray := prog_11_method_9_code
def yX9_lastFigure : MethodName := ⟨RX9, "lastFigure", "()I"⟩
abbrev cX9_place : ByteArray := prog_11_method_10_code
def yX9_place : MethodName := ⟨RX9, "place", "(II)I"⟩
abbrev cX9_pad : ByteArray := prog_11_method_11_code
def yX9_pad : MethodName := ⟨RX9, "pad", "(I)I"⟩
abbrev cX9_ticks : ByteArray := prog_11_method_12_code
def yX9_ticks : MethodName := ⟨RX9, "ticks", "()I"⟩
abbrev cX9_chargeLeft : ByteArray := prog_11_method_13_code
def yX9_chargeLeft : MethodName := ⟨RX9, "chargeLeft", "(I)I"⟩
abbrev cX9_light : ByteArray := prog_11_method_14_code
def yX9_light : MethodName := ⟨RX9, "light", "(I)I"⟩
abbrev cX9_fade : ByteArray := prog_11_method_15_code
def yX9_fade : MethodName := ⟨RX9, "fade", "(IIII)I"⟩
def RX10 : String := "SkyLights$Tape"
def TX10 : u_T := fun k => match k with
  | 0 => ("SkyLights$Tape", "bytes", "LSkyLights$Row;", true)
  | 1 => ("SkyLights$Tape", "size", "I", false)
  | 2 => ("SkyLights$Tape", "place", "I", false)
  | _ => ("SkyLights$Tape", "faulty", "Z", false)
def tyX10 : Nat → FieldType := fun k => match k with
  | 0 => .object "SkyLights$Row"
  | 1 => .int
  | 2 => .int
  | _ => .boolean
abbrev wsX100 : List Cond := u_ws RX10 TX10 4
theorem nmX10 : ∀ a, a < 4 → ∀ b, b < 4 → a ≠ b → (TX10 a).2.1 ≠ (TX10 b).2.1 := by decide +kernel
theorem tyX10_ok : ∀ k, k < 4 → parseFieldDescriptor (TX10 k).2.2.1 = some (tyX10 k) := by decide +kernel
abbrev cX10_init : ByteArray := prog_12_method_1_code
def yX10_init : MethodName := ⟨RX10, "<init>", "()V"⟩
abbrev cX10_size : ByteArray := prog_12_method_2_code
def yX10_size : MethodName := ⟨RX10, "size", "()I"⟩
abbrev cX10_empty : ByteArray := prog_12_method_3_code
def yX10_empty : MethodName := ⟨RX10, "empty", "()V"⟩
abbrev cX10_add : ByteArray := prog_12_method_4_code
def yX10_add : MethodName := ⟨RX10, "add", "(JI)V"⟩
abbrev cX10_read : ByteArray := prog_12_method_5_code
def yX10_read : MethodName := ⟨RX10, "read", "(LSkyLights$Places;)I"⟩
abbrev cX10_readPoint : ByteArray := prog_12_method_6_code
def yX10_readPoint : MethodName := ⟨RX10, "readPoint", "(LSkyLights$Places;)V"⟩
abbrev cX10_readNumber : ByteArray := prog_12_method_7_code
def yX10_readNumber : MethodName := ⟨RX10, "readNumber", "(ZC)I"⟩
abbrev cX10_readDigits : ByteArray := prog_12_method_8_code
def yX10_readDigits : MethodName := ⟨RX10, "readDigits", "(Z)I"⟩
abbrev cX10_readWorth : ByteArray := prog_12_method_9_code
def yX10_readWorth : MethodName := ⟨RX10, "readWorth", "()I"⟩
abbrev cX10_byteHere : ByteArray := prog_12_method_10_code
def yX10_byteHere : MethodName := ⟨RX10, "byteHere", "()I"⟩
abbrev cX10_digitOf : ByteArray := prog_12_method_11_code
def yX10_digitOf : MethodName := ⟨RX10, "digitOf", "(I)I"⟩
def RX11 : String := "SkyLights"
def TX11 : u_T := fun k => match k with
  | 0 => ("SkyLights", "tape", "LSkyLights$Tape;", true)
  | 1 => ("SkyLights", "gallery", "LSkyLights$Gallery;", true)
  | 2 => ("SkyLights", "air", "LSkyLights$Air;", true)
  | 3 => ("SkyLights", "planner", "LSkyLights$Planner;", true)
  | 4 => ("SkyLights", "latest", "LSkyLights$Pass;", true)
  | 5 => ("SkyLights", "parting", "LSkyLights$Parting;", true)
  | 6 => ("SkyLights", "show", "LSkyLights$Show;", true)
  | _ => ("SkyLights", "foreign", "LSkyLights$Foreign;", true)
def tyX11 : Nat → FieldType := fun k => match k with
  | 0 => .object "SkyLights$Tape"
  | 1 => .object "SkyLights$Gallery"
  | 2 => .object "SkyLights$Air"
  | 3 => .object "SkyLights$Planner"
  | 4 => .object "SkyLights$Pass"
  | 5 => .object "SkyLights$Parting"
  | 6 => .object "SkyLights$Show"
  | _ => .object "SkyLights$Foreign"
abbrev wsX110 : List Cond := u_ws RX11 TX11 8
theorem nmX11 : ∀ a, a < 8 → ∀ b, b < 8 → a ≠ b → (TX11 a).2.1 ≠ (TX11 b).2.1 := by decide +kernel
theorem tyX11_ok : ∀ k, k < 8 → parseFieldDescriptor (TX11 k).2.2.1 = some (tyX11 k) := by decide +kernel
abbrev cX11_init : ByteArray := prog_1_method_1_code
def yX11_init : MethodName := ⟨RX11, "<init>", "()V"⟩
abbrev cX11_flyer : ByteArray := prog_1_method_2_code
def yX11_flyer : MethodName := ⟨RX11, "flyer", "(III)I"⟩
abbrev cX11_feed : ByteArray := prog_1_method_3_code
def yX11_feed : MethodName := ⟨RX11, "feed", "(JI)I"⟩
abbrev cX11_figure : ByteArray := prog_1_method_4_code
def yX11_figure : MethodName := ⟨RX11, "figure", "()I"⟩
abbrev cX11_point : ByteArray := prog_1_method_5_code
def yX11_point : MethodName := ⟨RX11, "point", "(III)I"⟩
abbrev cX11_spread : ByteArray := prog_1_method_6_code
def yX11_spread : MethodName := ⟨RX11, "spread", "(I)I"⟩
abbrev cX11_gap : ByteArray := prog_1_method_7_code
def yX11_gap : MethodName := ⟨RX11, "gap", "(I)I"⟩
abbrev cX11_zone : ByteArray := prog_1_method_8_code
def yX11_zone : MethodName := ⟨RX11, "zone", "(III)I"⟩
abbrev cX11_pass : ByteArray := prog_1_method_9_code
def yX11_pass : MethodName := ⟨RX11, "pass", "(III)I"⟩
abbrev cX11_goes : ByteArray := prog_1_method_10_code
def yX11_goes : MethodName := ⟨RX11, "goes", "(I)I"⟩
abbrev cX11_delay : ByteArray := prog_1_method_11_code
def yX11_delay : MethodName := ⟨RX11, "delay", "(II)I"⟩
abbrev cX11_clash : ByteArray := prog_1_method_12_code
def yX11_clash : MethodName := ⟨RX11, "clash", "(II)I"⟩
abbrev cX11_enters : ByteArray := prog_1_method_13_code
def yX11_enters : MethodName := ⟨RX11, "enters", "(I)I"⟩
abbrev cX11_clean : ByteArray := prog_1_method_14_code
def yX11_clean : MethodName := ⟨RX11, "clean", "()I"⟩
abbrev cX11_part : ByteArray := prog_1_method_15_code
def yX11_part : MethodName := ⟨RX11, "part", "()I"⟩
abbrev cX11_scene : ByteArray := prog_1_method_16_code
def yX11_scene : MethodName := ⟨RX11, "scene", "(IIII)I"⟩
abbrev cX11_stands : ByteArray := prog_1_method_17_code
def yX11_stands : MethodName := ⟨RX11, "stands", "(II)I"⟩
abbrev cX11_lands : ByteArray := prog_1_method_18_code
def yX11_lands : MethodName := ⟨RX11, "lands", "(I)I"⟩
abbrev cX11_length : ByteArray := prog_1_method_19_code
def yX11_length : MethodName := ⟨RX11, "length", "()I"⟩
abbrev cX11_left : ByteArray := prog_1_method_20_code
def yX11_left : MethodName := ⟨RX11, "left", "(I)I"⟩
abbrev cX11_last : ByteArray := prog_1_method_21_code
def yX11_last : MethodName := ⟨RX11, "last", "()I"⟩
abbrev cX11_margin : ByteArray := prog_1_method_22_code
def yX11_margin : MethodName := ⟨RX11, "margin", "(I)I"⟩
abbrev cX11_colour : ByteArray := prog_1_method_23_code
def yX11_colour : MethodName := ⟨RX11, "colour", "(I)I"⟩
abbrev cX11_unclean : ByteArray := prog_1_method_24_code
def yX11_unclean : MethodName := ⟨RX11, "unclean", "()I"⟩
abbrev cX11_fails : ByteArray := prog_1_method_25_code
def yX11_fails : MethodName := ⟨RX11, "fails", "(III)I"⟩
abbrev cX11_cut : ByteArray := prog_1_method_26_code
def yX11_cut : MethodName := ⟨RX11, "cut", "()I"⟩
abbrev cX11_mark : ByteArray := prog_1_method_27_code
def yX11_mark : MethodName := ⟨RX11, "mark", "(IIIII)I"⟩
abbrev cX11_first : ByteArray := prog_1_method_28_code
def yX11_first : MethodName := ⟨RX11, "first", "()I"⟩
abbrev cX11_who : ByteArray := prog_1_method_29_code
def yX11_who : MethodName := ⟨RX11, "who", "(I)I"⟩
abbrev cX11_wipe : ByteArray := prog_1_method_30_code
def yX11_wipe : MethodName := ⟨RX11, "wipe", "()I"⟩
abbrev cX11_count : ByteArray := prog_1_method_31_code
def yX11_count : MethodName := ⟨RX11, "count", "(I)I"⟩
abbrev cX11_flyers : ByteArray := prog_1_method_32_code
def yX11_flyers : MethodName := ⟨RX11, "flyers", "()I"⟩
abbrev cX11_isFlyer : ByteArray := prog_1_method_33_code
def yX11_isFlyer : MethodName := ⟨RX11, "isFlyer", "(I)Z"⟩
abbrev cX11_isPicture : ByteArray := prog_1_method_34_code
def yX11_isPicture : MethodName := ⟨RX11, "isPicture", "(I)Z"⟩
abbrev cX11_worth : ByteArray := prog_1_method_35_code
def yX11_worth : MethodName := ⟨RX11, "worth", "(II)I"⟩
abbrev cX11_isWithin : ByteArray := prog_1_method_36_code
def yX11_isWithin : MethodName := ⟨RX11, "isWithin", "(III)Z"⟩
abbrev cX11_isAcross : ByteArray := prog_1_method_37_code
def yX11_isAcross : MethodName := ⟨RX11, "isAcross", "(I)Z"⟩
abbrev cX11_bit : ByteArray := prog_1_method_38_code
def yX11_bit : MethodName := ⟨RX11, "bit", "(Z)I"⟩
def RX12 : String := "SkyLightsModel"
def TX12 : u_T := fun k => match k with
  | 0 => ("SkyLightsModel", "padX", "[I", true)
  | 1 => ("SkyLightsModel", "padY", "[I", true)
  | 2 => ("SkyLightsModel", "charge", "[I", true)
  | 3 => ("SkyLightsModel", "size", "[I", true)
  | 4 => ("SkyLightsModel", "pointX", "[I", true)
  | 5 => ("SkyLightsModel", "pointY", "[I", true)
  | 6 => ("SkyLightsModel", "pointZ", "[I", true)
  | 7 => ("SkyLightsModel", "worth", "[I", true)
  | 8 => ("SkyLightsModel", "flyers", "I", false)
  | 9 => ("SkyLightsModel", "figures", "I", false)
  | 10 => ("SkyLightsModel", "gap", "I", false)
  | 11 => ("SkyLightsModel", "zoneX", "I", false)
  | 12 => ("SkyLightsModel", "zoneY", "I", false)
  | 13 => ("SkyLightsModel", "radius", "I", false)
  | 14 => ("SkyLightsModel", "tape", "[I", true)
  | 15 => ("SkyLightsModel", "taped", "I", false)
  | 16 => ("SkyLightsModel", "at", "I", false)
  | 17 => ("SkyLightsModel", "number", "I", false)
  | 18 => ("SkyLightsModel", "fromX", "[I", true)
  | 19 => ("SkyLightsModel", "fromY", "[I", true)
  | 20 => ("SkyLightsModel", "fromZ", "[I", true)
  | 21 => ("SkyLightsModel", "toX", "[I", true)
  | 22 => ("SkyLightsModel", "toY", "[I", true)
  | 23 => ("SkyLightsModel", "toZ", "[I", true)
  | 24 => ("SkyLightsModel", "wait", "[I", true)
  | 25 => ("SkyLightsModel", "ticksOf", "[I", true)
  | 26 => ("SkyLightsModel", "manyOf", "[I", true)
  | 27 => ("SkyLightsModel", "goes", "[I", true)
  | 28 => ("SkyLightsModel", "way", "[I", true)
  | 29 => ("SkyLightsModel", "most", "[I", true)
  | 30 => ("SkyLightsModel", "goesTo", "[I", true)
  | 31 => ("SkyLightsModel", "oldX", "[I", true)
  | 32 => ("SkyLightsModel", "oldY", "[I", true)
  | 33 => ("SkyLightsModel", "oldZ", "[I", true)
  | 34 => ("SkyLightsModel", "before", "[I", true)
  | 35 => ("SkyLightsModel", "sceneFigure", "[I", true)
  | 36 => ("SkyLightsModel", "sceneTicks", "[I", true)
  | 37 => ("SkyLightsModel", "sceneHold", "[I", true)
  | 38 => ("SkyLightsModel", "sceneCue", "[I", true)
  | 39 => ("SkyLightsModel", "standsAt", "[I", true)
  | 40 => ("SkyLightsModel", "landsOn", "[I", true)
  | 41 => ("SkyLightsModel", "scenes", "I", false)
  | 42 => ("SkyLightsModel", "margin", "I", false)
  | 43 => ("SkyLightsModel", "markFlyer", "[I", true)
  | 44 => ("SkyLightsModel", "markTick", "[I", true)
  | 45 => ("SkyLightsModel", "markX", "[I", true)
  | 46 => ("SkyLightsModel", "markY", "[I", true)
  | 47 => ("SkyLightsModel", "markZ", "[I", true)
  | 48 => ("SkyLightsModel", "marks", "I", false)
  | 49 => ("SkyLightsModel", "whoFirst", "I", false)
  | 50 => ("SkyLightsModel", "whoSecond", "I", false)
  | 51 => ("SkyLightsModel", "now", "[I", true)
  | _ => ("SkyLightsModel", "then", "[I", true)
def tyX12 : Nat → FieldType := fun k => match k with
  | 0 => .array .int
  | 1 => .array .int
  | 2 => .array .int
  | 3 => .array .int
  | 4 => .array .int
  | 5 => .array .int
  | 6 => .array .int
  | 7 => .array .int
  | 8 => .int
  | 9 => .int
  | 10 => .int
  | 11 => .int
  | 12 => .int
  | 13 => .int
  | 14 => .array .int
  | 15 => .int
  | 16 => .int
  | 17 => .int
  | 18 => .array .int
  | 19 => .array .int
  | 20 => .array .int
  | 21 => .array .int
  | 22 => .array .int
  | 23 => .array .int
  | 24 => .array .int
  | 25 => .array .int
  | 26 => .array .int
  | 27 => .array .int
  | 28 => .array .int
  | 29 => .array .int
  | 30 => .array .int
  | 31 => .array .int
  | 32 => .array .int
  | 33 => .array .int
  | 34 => .array .int
  | 35 => .array .int
  | 36 => .array .int
  | 37 => .array .int
  | 38 => .array .int
  | 39 => .array .int
  | 40 => .array .int
  | 41 => .int
  | 42 => .int
  | 43 => .array .int
  | 44 => .array .int
  | 45 => .array .int
  | 46 => .array .int
  | 47 => .array .int
  | 48 => .int
  | 49 => .int
  | 50 => .int
  | 51 => .array .int
  | _ => .array .int
abbrev wsX120 : List Cond := u_ws RX12 TX12 53
theorem nmX12 : ∀ a, a < 53 → ∀ b, b < 53 → a ≠ b → (TX12 a).2.1 ≠ (TX12 b).2.1 := by decide +kernel
theorem tyX12_ok : ∀ k, k < 53 → parseFieldDescriptor (TX12 k).2.2.1 = some (tyX12 k) := by decide +kernel
abbrev cX12_init : ByteArray := prog_14_method_1_code
def yX12_init : MethodName := ⟨RX12, "<init>", "()V"⟩
abbrev cX12_isIn : ByteArray := prog_14_method_2_code
def yX12_isIn : MethodName := ⟨RX12, "isIn", "(JJJ)Z"⟩
abbrev cX12_isFlyer : ByteArray := prog_14_method_3_code
def yX12_isFlyer : MethodName := ⟨RX12, "isFlyer", "(I)Z"⟩
abbrev cX12_isFigure : ByteArray := prog_14_method_4_code
def yX12_isFigure : MethodName := ⟨RX12, "isFigure", "(I)Z"⟩
abbrev cX12_flyer : ByteArray := prog_14_method_5_code
def yX12_flyer : MethodName := ⟨RX12, "flyer", "(III)I"⟩
abbrev cX12_feed : ByteArray := prog_14_method_6_code
def yX12_feed : MethodName := ⟨RX12, "feed", "(JI)I"⟩
abbrev cX12_sign : ByteArray := prog_14_method_7_code
def yX12_sign : MethodName := ⟨RX12, "sign", "()I"⟩
abbrev cX12_isDigit : ByteArray := prog_14_method_8_code
def yX12_isDigit : MethodName := ⟨RX12, "isDigit", "(I)Z"⟩
abbrev cX12_takes : ByteArray := prog_14_method_9_code
def yX12_takes : MethodName := ⟨RX12, "takes", "(I)Z"⟩
abbrev cX12_number : ByteArray := prog_14_method_10_code
def yX12_number : MethodName := ⟨RX12, "number", "(Z)Z"⟩
abbrev cX12_point : ByteArray := prog_14_method_11_code
def yX12_point : MethodName := ⟨RX12, "point", "(I)Z"⟩
abbrev cX12_points : ByteArray := prog_14_method_12_code
def yX12_points : MethodName := ⟨RX12, "points", "()I"⟩
abbrev cX12_figure : ByteArray := prog_14_method_13_code
def yX12_figure : MethodName := ⟨RX12, "figure", "()I"⟩
abbrev cX12_square : ByteArray := prog_14_method_14_code
def yX12_square : MethodName := ⟨RX12, "square", "(I)I"⟩
abbrev cX12_apart : ByteArray := prog_14_method_15_code
def yX12_apart : MethodName := ⟨RX12, "apart", "(II)I"⟩
abbrev cX12_least : ByteArray := prog_14_method_16_code
def yX12_least : MethodName := ⟨RX12, "least", "(I)I"⟩
abbrev cX12_point_ : ByteArray := prog_14_method_17_code
def yX12_point_ : MethodName := ⟨RX12, "point", "(III)I"⟩
abbrev cX12_spread : ByteArray := prog_14_method_18_code
def yX12_spread : MethodName := ⟨RX12, "spread", "(I)I"⟩
abbrev cX12_gap : ByteArray := prog_14_method_19_code
def yX12_gap : MethodName := ⟨RX12, "gap", "(I)I"⟩
abbrev cX12_zone : ByteArray := prog_14_method_20_code
def yX12_zone : MethodName := ⟨RX12, "zone", "(III)I"⟩
abbrev cX12_isNear : ByteArray := prog_14_method_21_code
def yX12_isNear : MethodName := ⟨RX12, "isNear", "(JJJJJJJJ)Z"⟩
abbrev cX12_placeX : ByteArray := prog_14_method_22_code
def yX12_placeX : MethodName := ⟨RX12, "placeX", "(III)I"⟩
abbrev cX12_placeY : ByteArray := prog_14_method_23_code
def yX12_placeY : MethodName := ⟨RX12, "placeY", "(III)I"⟩
abbrev cX12_placeZ : ByteArray := prog_14_method_24_code
def yX12_placeZ : MethodName := ⟨RX12, "placeZ", "(III)I"⟩
abbrev cX12_gone : ByteArray := prog_14_method_25_code
def yX12_gone : MethodName := ⟨RX12, "gone", "(III)I"⟩
abbrev cX12_clash : ByteArray := prog_14_method_26_code
def yX12_clash : MethodName := ⟨RX12, "clash", "(III)Z"⟩
abbrev cX12_enters : ByteArray := prog_14_method_27_code
def yX12_enters : MethodName := ⟨RX12, "enters", "(II)Z"⟩
abbrev cX12_isClean : ByteArray := prog_14_method_28_code
def yX12_isClean : MethodName := ⟨RX12, "isClean", "(I)Z"⟩
abbrev cX12_begins : ByteArray := prog_14_method_29_code
def yX12_begins : MethodName := ⟨RX12, "begins", "(IIII)V"⟩
abbrev cX12_greater : ByteArray := prog_14_method_30_code
def yX12_greater : MethodName := ⟨RX12, "greater", "(II)I"⟩
abbrev cX12_bits : ByteArray := prog_14_method_31_code
def yX12_bits : MethodName := ⟨RX12, "bits", "(I)I"⟩
abbrev cX12_assigns : ByteArray := prog_14_method_32_code
def yX12_assigns : MethodName := ⟨RX12, "assigns", "(I)I"⟩
abbrev cX12_pass : ByteArray := prog_14_method_33_code
def yX12_pass : MethodName := ⟨RX12, "pass", "(III)I"⟩
abbrev cX12_isOfPass : ByteArray := prog_14_method_34_code
def yX12_isOfPass : MethodName := ⟨RX12, "isOfPass", "(I)Z"⟩
abbrev cX12_goes : ByteArray := prog_14_method_35_code
def yX12_goes : MethodName := ⟨RX12, "goes", "(I)I"⟩
abbrev cX12_delay : ByteArray := prog_14_method_36_code
def yX12_delay : MethodName := ⟨RX12, "delay", "(II)I"⟩
abbrev cX12_clash_ : ByteArray := prog_14_method_37_code
def yX12_clash_ : MethodName := ⟨RX12, "clash", "(II)I"⟩
abbrev cX12_enters_ : ByteArray := prog_14_method_38_code
def yX12_enters_ : MethodName := ⟨RX12, "enters", "(I)I"⟩
abbrev cX12_clean : ByteArray := prog_14_method_39_code
def yX12_clean : MethodName := ⟨RX12, "clean", "()I"⟩
abbrev cX12_waits : ByteArray := prog_14_method_40_code
def yX12_waits : MethodName := ⟨RX12, "waits", "(II)V"⟩
abbrev cX12_sumOf : ByteArray := prog_14_method_41_code
def yX12_sumOf : MethodName := ⟨RX12, "sumOf", "(I)I"⟩
abbrev cX12_part : ByteArray := prog_14_method_42_code
def yX12_part : MethodName := ⟨RX12, "part", "()I"⟩
abbrev cX12_looksAt : ByteArray := prog_14_method_43_code
def yX12_looksAt : MethodName := ⟨RX12, "looksAt", "(I)V"⟩
abbrev cX12_pointAhead : ByteArray := prog_14_method_44_code
def yX12_pointAhead : MethodName := ⟨RX12, "pointAhead", "(II)I"⟩
abbrev cX12_scene : ByteArray := prog_14_method_45_code
def yX12_scene : MethodName := ⟨RX12, "scene", "(IIII)I"⟩
abbrev cX12_isScene : ByteArray := prog_14_method_46_code
def yX12_isScene : MethodName := ⟨RX12, "isScene", "(I)Z"⟩
abbrev cX12_stands : ByteArray := prog_14_method_47_code
def yX12_stands : MethodName := ⟨RX12, "stands", "(II)I"⟩
abbrev cX12_lands : ByteArray := prog_14_method_48_code
def yX12_lands : MethodName := ⟨RX12, "lands", "(I)I"⟩
abbrev cX12_length : ByteArray := prog_14_method_49_code
def yX12_length : MethodName := ⟨RX12, "length", "()I"⟩
abbrev cX12_heightIn : ByteArray := prog_14_method_50_code
def yX12_heightIn : MethodName := ⟨RX12, "heightIn", "(II)I"⟩
abbrev cX12_leftTo : ByteArray := prog_14_method_51_code
def yX12_leftTo : MethodName := ⟨RX12, "leftTo", "(I)I"⟩
abbrev cX12_left : ByteArray := prog_14_method_52_code
def yX12_left : MethodName := ⟨RX12, "left", "(I)I"⟩
abbrev cX12_last : ByteArray := prog_14_method_53_code
def yX12_last : MethodName := ⟨RX12, "last", "()I"⟩
abbrev cX12_margin : ByteArray := prog_14_method_54_code
def yX12_margin : MethodName := ⟨RX12, "margin", "(I)I"⟩
abbrev cX12_colour : ByteArray := prog_14_method_55_code
def yX12_colour : MethodName := ⟨RX12, "colour", "(I)I"⟩
abbrev cX12_unclean : ByteArray := prog_14_method_56_code
def yX12_unclean : MethodName := ⟨RX12, "unclean", "()I"⟩
abbrev cX12_worthAt : ByteArray := prog_14_method_57_code
def yX12_worthAt : MethodName := ⟨RX12, "worthAt", "(II)I"⟩
abbrev cX12_fails : ByteArray := prog_14_method_58_code
def yX12_fails : MethodName := ⟨RX12, "fails", "(III)I"⟩
abbrev cX12_cut : ByteArray := prog_14_method_59_code
def yX12_cut : MethodName := ⟨RX12, "cut", "()I"⟩
abbrev cX12_mark : ByteArray := prog_14_method_60_code
def yX12_mark : MethodName := ⟨RX12, "mark", "(IIIII)I"⟩
abbrev cX12_markOf : ByteArray := prog_14_method_61_code
def yX12_markOf : MethodName := ⟨RX12, "markOf", "(II)I"⟩
abbrev cX12_isInZone : ByteArray := prog_14_method_62_code
def yX12_isInZone : MethodName := ⟨RX12, "isInZone", "(I)Z"⟩
abbrev cX12_areNear : ByteArray := prog_14_method_63_code
def yX12_areNear : MethodName := ⟨RX12, "areNear", "(II)Z"⟩
abbrev cX12_findClash : ByteArray := prog_14_method_64_code
def yX12_findClash : MethodName := ⟨RX12, "findClash", "(I)Z"⟩
abbrev cX12_first : ByteArray := prog_14_method_65_code
def yX12_first : MethodName := ⟨RX12, "first", "()I"⟩
abbrev cX12_who : ByteArray := prog_14_method_66_code
def yX12_who : MethodName := ⟨RX12, "who", "(I)I"⟩
abbrev cX12_wipe : ByteArray := prog_14_method_67_code
def yX12_wipe : MethodName := ⟨RX12, "wipe", "()I"⟩
abbrev cX12_count : ByteArray := prog_14_method_68_code
def yX12_count : MethodName := ⟨RX12, "count", "(I)I"⟩
def RJ6 : String := "java/lang/Integer"
def TJ6 : u_T := fun k => match k with
  | _ => ("", "", "", false)
def tyJ6 : Nat → FieldType := fun k => match k with
  | _ => .int
abbrev wsJ60 : List Cond := u_ws RJ6 TJ6 0
theorem nmJ6 : ∀ a, a < 0 → ∀ b, b < 0 → a ≠ b → (TJ6 a).2.1 ≠ (TJ6 b).2.1 := by decide +kernel
theorem tyJ6_ok : ∀ k, k < 0 → parseFieldDescriptor (TJ6 k).2.2.1 = some (tyJ6 k) := by decide +kernel
abbrev cJ6_bitCount_0f7a4 : ByteArray := prog_15_method_49_code
def yJ6_bitCount_0f7a4 : MethodName := ⟨RJ6, "bitCount", "(I)I"⟩
def RJ9 : String := "java/lang/Math"
def TJ9 : u_T := fun k => match k with
  | _ => ("", "", "", false)
def tyJ9 : Nat → FieldType := fun k => match k with
  | _ => .int
abbrev wsJ90 : List Cond := u_ws RJ9 TJ9 0
theorem nmJ9 : ∀ a, a < 0 → ∀ b, b < 0 → a ≠ b → (TJ9 a).2.1 ≠ (TJ9 b).2.1 := by decide +kernel
theorem tyJ9_ok : ∀ k, k < 0 → parseFieldDescriptor (TJ9 k).2.2.1 = some (tyJ9 k) := by decide +kernel
abbrev cJ9_max_7cf53 : ByteArray := prog_16_method_65_code
def yJ9_max_7cf53 : MethodName := ⟨RJ9, "max", "(II)I"⟩
abbrev cJ9_min_7cf53 : ByteArray := prog_16_method_69_code
def yJ9_min_7cf53 : MethodName := ⟨RJ9, "min", "(II)I"⟩
def RL : String := "SkyLightsLaw"
abbrev cL_law : ByteArray := code
def yL_law : MethodName := ⟨RL, "law", "([I)Z"⟩
abbrev vwCl : List vw_C := [(RX0, TX0, 4), (RX1, TX1, 7), (RX2, TX2, 4), (RX3, TX3, 6), (RX4, TX4, 3), (RX5, TX5, 2), (RX6, TX6, 3), (RX7, TX7, 1), (RX8, TX8, 5), (RX9, TX9, 5), (RX10, TX10, 4), (RX11, TX11, 8), (RX12, TX12, 53)]
end
section
def iX0_init : List (Nat × Instr × Nat) := [(0, .aload_n 0, 1), (1, .invokespecial 1, 3), (4, .aload_n 0, 1), (5, .bipush 10, 2), (7, .putfield 7, 3), (10, .aload_n 0, 1), (11, .iconst 0, 1), (12, .putfield 13, 3), (15, .aload_n 0, 1), (16, .iconst 0, 1), (17, .putfield 16, 3), (20, .aload_n 0, 1), (21, .iconst 0, 1), (22, .putfield 19, 3), (25, .return_, 1)]
theorem okX0_init : ∀ q ∈ iX0_init, decode cX0_init q.1 = .ok q.2 := by decide +kernel
def iX0_isLoose : List (Nat × Instr × Nat) := [(0, .aload_n 1, 1), (1, .invokevirtual 22, 3), (4, .aload_n 0, 1), (5, .getfield 7, 3), (8, .aload_n 0, 1), (9, .getfield 7, 3), (12, .imul, 1), (13, .if_icmp .lt 7, 3), (16, .iconst 1, 1), (17, .goto 4, 3), (20, .iconst 0, 1), (21, .ireturn, 1)]
theorem okX0_isLoose : ∀ q ∈ iX0_isLoose, decode cX0_isLoose q.1 = .ok q.2 := by decide +kernel
def iX0_isInZone : List (Nat × Instr × Nat) := [(0, .iload_n 1, 1), (1, .aload_n 0, 1), (2, .getfield 13, 3), (5, .isub, 1), (6, .i2l, 1), (7, .iload_n 2, 1), (8, .aload_n 0, 1), (9, .getfield 16, 3), (12, .isub, 1), (13, .i2l, 1), (14, .lconst 0, 1), (15, .iload_n 3, 1), (16, .aload_n 0, 1), (17, .getfield 13, 3), (20, .isub, 1), (21, .i2l, 1), (22, .iload 4, 2), (24, .aload_n 0, 1), (25, .getfield 16, 3), (28, .isub, 1), (29, .i2l, 1), (30, .lconst 0, 1), (31, .aload_n 0, 1), (32, .getfield 19, 3), (35, .i2l, 1), (36, .invokestatic 28, 3), (39, .ireturn, 1)]
theorem okX0_isInZone : ∀ q ∈ iX0_isInZone, decode cX0_isInZone q.1 = .ok q.2 := by decide +kernel
def iX0_isNearer : List (Nat × Instr × Nat) := [(0, .lload 6, 2), (2, .lload_n 0, 1), (3, .lsub, 1), (4, .lstore 14, 2), (6, .lload 8, 2), (8, .lload_n 2, 1), (9, .lsub, 1), (10, .lstore 16, 2), (12, .lload 10, 2), (14, .lload 4, 2), (16, .lsub, 1), (17, .lstore 18, 2), (19, .lload 14, 2), (21, .lload 14, 2), (23, .lmul, 1), (24, .lload 16, 2), (26, .lload 16, 2), (28, .lmul, 1), (29, .ladd, 1), (30, .lload 18, 2), (32, .lload 18, 2), (34, .lmul, 1), (35, .ladd, 1), (36, .lstore 20, 2), (38, .lload_n 0, 1), (39, .lload 14, 2), (41, .lmul, 1), (42, .lload_n 2, 1), (43, .lload 16, 2), (45, .lmul, 1), (46, .ladd, 1), (47, .lload 4, 2), (49, .lload 18, 2), (51, .lmul, 1), (52, .ladd, 1), (53, .lneg, 1), (54, .lstore 22, 2), (56, .lload_n 0, 1), (57, .lload_n 0, 1), (58, .lmul, 1), (59, .lload_n 2, 1), (60, .lload_n 2, 1), (61, .lmul, 1), (62, .ladd, 1), (63, .lload 4, 2), (65, .lload 4, 2), (67, .lmul, 1), (68, .ladd, 1), (69, .lstore 24, 2), (71, .lload 12, 2), (73, .lload 12, 2), (75, .lmul, 1), (76, .lstore 26, 2), (78, .lload 22, 2), (80, .lconst 0, 1), (81, .lcmp, 1), (82, .ifCond .gt 17, 3), (85, .lload 24, 2), (87, .lload 26, 2), (89, .lcmp, 1), (90, .ifCond .ge 7, 3), (93, .iconst 1, 1), (94, .goto 4, 3), (97, .iconst 0, 1), (98, .ireturn, 1), (99, .lload 22, 2), (101, .lload 20, 2), (103, .lcmp, 1), (104, .ifCond .lt 32, 3), (107, .lload 6, 2), (109, .lload 6, 2), (111, .lmul, 1), (112, .lload 8, 2), (114, .lload 8, 2), (116, .lmul, 1), (117, .ladd, 1), (118, .lload 10, 2), (120, .lload 10, 2), (122, .lmul, 1), (123, .ladd, 1), (124, .lload 26, 2), (126, .lcmp, 1), (127, .ifCond .ge 7, 3), (130, .iconst 1, 1), (131, .goto 4, 3), (134, .iconst 0, 1), (135, .ireturn, 1), (136, .lload 24, 2), (138, .lload 26, 2), (140, .lsub, 1), (141, .lload 20, 2), (143, .lmul, 1), (144, .lload 22, 2), (146, .lload 22, 2), (148, .lmul, 1), (149, .lcmp, 1), (150, .ifCond .ge 7, 3), (153, .iconst 1, 1), (154, .goto 4, 3), (157, .iconst 0, 1), (158, .ireturn, 1)]
theorem okX0_isNearer : ∀ q ∈ iX0_isNearer, decode cX0_isNearer q.1 = .ok q.2 := by decide +kernel
def iX1_init : List (Nat × Instr × Nat) := [(0, .aload_n 0, 1), (1, .invokespecial 3, 3), (4, .aload_n 0, 1), (5, .new 9, 3), (8, .dup, 1), (9, .sipush 1000, 3), (12, .invokespecial 13, 3), (15, .putfield 16, 3), (18, .aload_n 0, 1), (19, .new 9, 3), (22, .dup, 1), (23, .bipush 10, 2), (25, .invokespecial 13, 3), (28, .putfield 20, 3), (31, .aload_n 0, 1), (32, .new 9, 3), (35, .dup, 1), (36, .bipush 10, 2), (38, .invokespecial 13, 3), (41, .putfield 23, 3), (44, .aload_n 0, 1), (45, .new 9, 3), (48, .dup, 1), (49, .bipush 10, 2), (51, .invokespecial 13, 3), (54, .putfield 26, 3), (57, .aload_n 0, 1), (58, .iconst 0, 1), (59, .putfield 29, 3), (62, .aload_n 0, 1), (63, .iconst (-1), 1), (64, .putfield 33, 3), (67, .aload_n 0, 1), (68, .iconst (-1), 1), (69, .putfield 36, 3), (72, .aload_n 0, 1), (73, .getfield 20, 3), (76, .iconst (-1), 1), (77, .invokevirtual 39, 3), (80, .aload_n 0, 1), (81, .getfield 23, 3), (84, .iconst (-1), 1), (85, .invokevirtual 39, 3), (88, .return_, 1)]
theorem okX1_init : ∀ q ∈ iX1_init, decode cX1_init q.1 = .ok q.2 := by decide +kernel
def iX1_size : List (Nat × Instr × Nat) := [(0, .aload_n 0, 1), (1, .getfield 29, 3), (4, .ireturn, 1)]
theorem okX1_size : ∀ q ∈ iX1_size, decode cX1_size q.1 = .ok q.2 := by decide +kernel
def iX1_empty : List (Nat × Instr × Nat) := [(0, .aload_n 0, 1), (1, .iconst 0, 1), (2, .putfield 29, 3), (5, .aload_n 0, 1), (6, .getfield 20, 3), (9, .iconst (-1), 1), (10, .invokevirtual 39, 3), (13, .aload_n 0, 1), (14, .getfield 23, 3), (17, .iconst (-1), 1), (18, .invokevirtual 39, 3), (21, .return_, 1)]
theorem okX1_empty : ∀ q ∈ iX1_empty, decode cX1_empty q.1 = .ok q.2 := by decide +kernel
def iX1_isBehind : List (Nat × Instr × Nat) := [(0, .aload_n 0, 1), (1, .getfield 23, 3), (4, .iload_n 1, 1), (5, .invokevirtual 42, 3), (8, .istore_n 3, 1), (9, .iload_n 3, 1), (10, .iconst (-1), 1), (11, .if_icmp .eq 13, 3), (14, .iload_n 2, 1), (15, .aload_n 0, 1), (16, .iload_n 3, 1), (17, .iconst 3, 1), (18, .invokevirtual 46, 3), (21, .if_icmp .le 7, 3), (24, .iconst 1, 1), (25, .goto 4, 3), (28, .iconst 0, 1), (29, .ireturn, 1)]
theorem okX1_isBehind : ∀ q ∈ iX1_isBehind, decode cX1_isBehind q.1 = .ok q.2 := by decide +kernel
def iX1_add : List (Nat × Instr × Nat) := [(0, .aload_n 0, 1), (1, .getfield 16, 3), (4, .aload_n 0, 1), (5, .getfield 29, 3), (8, .iconst 5, 1), (9, .imul, 1), (10, .iconst 0, 1), (11, .iadd, 1), (12, .iload_n 3, 1), (13, .invokevirtual 50, 3), (16, .aload_n 0, 1), (17, .getfield 16, 3), (20, .aload_n 0, 1), (21, .getfield 29, 3), (24, .iconst 5, 1), (25, .imul, 1), (26, .iconst 1, 1), (27, .iadd, 1), (28, .iload 4, 2), (30, .invokevirtual 50, 3), (33, .aload_n 0, 1), (34, .getfield 16, 3), (37, .aload_n 0, 1), (38, .getfield 29, 3), (41, .iconst 5, 1), (42, .imul, 1), (43, .iconst 2, 1), (44, .iadd, 1), (45, .iload 5, 2), (47, .invokevirtual 50, 3), (50, .aload_n 0, 1), (51, .getfield 16, 3), (54, .aload_n 0, 1), (55, .getfield 29, 3), (58, .iconst 5, 1), (59, .imul, 1), (60, .iconst 3, 1), (61, .iadd, 1), (62, .iload_n 2, 1), (63, .invokevirtual 50, 3), (66, .aload_n 0, 1), (67, .getfield 16, 3), (70, .aload_n 0, 1), (71, .getfield 29, 3), (74, .iconst 5, 1), (75, .imul, 1), (76, .iconst 4, 1), (77, .iadd, 1), (78, .iconst (-1), 1), (79, .invokevirtual 50, 3), (82, .aload_n 0, 1), (83, .getfield 23, 3), (86, .iload_n 1, 1), (87, .invokevirtual 42, 3), (90, .iconst (-1), 1), (91, .if_icmp .ne 18, 3), (94, .aload_n 0, 1), (95, .getfield 20, 3), (98, .iload_n 1, 1), (99, .aload_n 0, 1), (100, .getfield 29, 3), (103, .invokevirtual 50, 3), (106, .goto 26, 3), (109, .aload_n 0, 1), (110, .getfield 16, 3), (113, .aload_n 0, 1), (114, .getfield 23, 3), (117, .iload_n 1, 1), (118, .invokevirtual 42, 3), (121, .iconst 5, 1), (122, .imul, 1), (123, .iconst 4, 1), (124, .iadd, 1), (125, .aload_n 0, 1), (126, .getfield 29, 3), (129, .invokevirtual 50, 3), (132, .aload_n 0, 1), (133, .getfield 23, 3), (136, .iload_n 1, 1), (137, .aload_n 0, 1), (138, .getfield 29, 3), (141, .invokevirtual 50, 3), (144, .aload_n 0, 1), (145, .dup, 1), (146, .getfield 29, 3), (149, .iconst 1, 1), (150, .iadd, 1), (151, .putfield 29, 3), (154, .return_, 1)]
theorem okX1_add : ∀ q ∈ iX1_add, decode cX1_add q.1 = .ok q.2 := by decide +kernel
def iX1_firstClash : List (Nat × Instr × Nat) := [(0, .iconst 0, 1), (1, .istore_n 2, 1), (2, .iload_n 2, 1), (3, .bipush 10, 2), (5, .if_icmp .ge 25, 3), (8, .aload_n 0, 1), (9, .getfield 26, 3), (12, .iload_n 2, 1), (13, .aload_n 0, 1), (14, .getfield 20, 3), (17, .iload_n 2, 1), (18, .invokevirtual 42, 3), (21, .invokevirtual 50, 3), (24, .iinc 2 1, 3), (27, .goto (-25), 3), (30, .iconst 0, 1), (31, .istore_n 2, 1), (32, .iload_n 2, 1), (33, .aload_n 0, 1), (34, .getfield 29, 3), (37, .if_icmp .ge 30, 3), (40, .aload_n 0, 1), (41, .invokevirtual 54, 3), (44, .istore_n 3, 1), (45, .aload_n 0, 1), (46, .iload_n 3, 1), (47, .aload_n 1, 1), (48, .invokevirtual 58, 3), (51, .ifCond .eq 5, 3), (54, .iload_n 3, 1), (55, .ireturn, 1), (56, .aload_n 0, 1), (57, .iload_n 3, 1), (58, .invokevirtual 62, 3), (61, .iinc 2 1, 3), (64, .goto (-32), 3), (67, .iconst (-1), 1), (68, .ireturn, 1)]
theorem okX1_firstClash : ∀ q ∈ iX1_firstClash, decode cX1_firstClash q.1 = .ok q.2 := by decide +kernel
def iX1_leastTick : List (Nat × Instr × Nat) := [(0, .sipush 1000, 3), (3, .istore_n 1, 1), (4, .iconst 0, 1), (5, .istore_n 2, 1), (6, .iload_n 2, 1), (7, .bipush 10, 2), (9, .if_icmp .ge 34, 3), (12, .aload_n 0, 1), (13, .getfield 26, 3), (16, .iload_n 2, 1), (17, .invokevirtual 42, 3), (20, .istore_n 3, 1), (21, .iload_n 3, 1), (22, .iconst (-1), 1), (23, .if_icmp .eq 14, 3), (26, .iload_n 1, 1), (27, .aload_n 0, 1), (28, .iload_n 3, 1), (29, .iconst 3, 1), (30, .invokevirtual 46, 3), (33, .invokestatic 65, 3), (36, .istore_n 1, 1), (37, .iinc 2 1, 3), (40, .goto (-34), 3), (43, .iload_n 1, 1), (44, .ireturn, 1)]
theorem okX1_leastTick : ∀ q ∈ iX1_leastTick, decode cX1_leastTick q.1 = .ok q.2 := by decide +kernel
def iX1_goBehind : List (Nat × Instr × Nat) := [(0, .iconst 0, 1), (1, .istore_n 2, 1), (2, .iload_n 2, 1), (3, .bipush 10, 2), (5, .if_icmp .ge 39, 3), (8, .aload_n 0, 1), (9, .iload_n 2, 1), (10, .iload_n 1, 1), (11, .invokevirtual 70, 3), (14, .ifCond .eq 24, 3), (17, .aload_n 0, 1), (18, .getfield 26, 3), (21, .iload_n 2, 1), (22, .aload_n 0, 1), (23, .aload_n 0, 1), (24, .getfield 26, 3), (27, .iload_n 2, 1), (28, .invokevirtual 42, 3), (31, .iconst 4, 1), (32, .invokevirtual 46, 3), (35, .invokevirtual 50, 3), (38, .iinc 2 1, 3), (41, .goto (-39), 3), (44, .return_, 1)]
theorem okX1_goBehind : ∀ q ∈ iX1_goBehind, decode cX1_goBehind q.1 = .ok q.2 := by decide +kernel
def iX1_isClashAt : List (Nat × Instr × Nat) := [(0, .iconst 0, 1), (1, .istore_n 3, 1), (2, .iload_n 3, 1), (3, .bipush 10, 2), (5, .if_icmp .ge 75, 3), (8, .aload_n 0, 1), (9, .iload_n 3, 1), (10, .iload_n 1, 1), (11, .invokevirtual 70, 3), (14, .ifCond .eq 60, 3), (17, .aload_n 0, 1), (18, .aload_n 0, 1), (19, .getfield 26, 3), (22, .iload_n 3, 1), (23, .invokevirtual 42, 3), (26, .aload_n 2, 1), (27, .invokevirtual 74, 3), (30, .istore 4, 2), (32, .iload 4, 2), (34, .ifCond .eq 7, 3), (37, .iconst (-1), 1), (38, .goto 10, 3), (41, .aload_n 0, 1), (42, .iload_n 3, 1), (43, .iload_n 1, 1), (44, .aload_n 2, 1), (45, .invokevirtual 77, 3), (48, .istore 5, 2), (50, .iload 4, 2), (52, .ifCond .ne 9, 3), (55, .iload 5, 2), (57, .iconst (-1), 1), (58, .if_icmp .eq 16, 3), (61, .aload_n 0, 1), (62, .iload_n 3, 1), (63, .putfield 33, 3), (66, .aload_n 0, 1), (67, .iload 5, 2), (69, .putfield 36, 3), (72, .iconst 1, 1), (73, .ireturn, 1), (74, .iinc 3 1, 3), (77, .goto (-75), 3), (80, .iconst 0, 1), (81, .ireturn, 1)]
theorem okX1_isClashAt : ∀ q ∈ iX1_isClashAt, decode cX1_isClashAt q.1 = .ok q.2 := by decide +kernel
def iX1_partner : List (Nat × Instr × Nat) := [(0, .iload_n 1, 1), (1, .iconst 1, 1), (2, .iadd, 1), (3, .istore 4, 2), (5, .iload 4, 2), (7, .bipush 10, 2), (9, .if_icmp .ge 50, 3), (12, .aload_n 0, 1), (13, .iload 4, 2), (15, .iload_n 2, 1), (16, .invokevirtual 70, 3), (19, .ifCond .eq 34, 3), (22, .aload_n 0, 1), (23, .aload_n 0, 1), (24, .getfield 26, 3), (27, .iload_n 1, 1), (28, .invokevirtual 42, 3), (31, .aload_n 0, 1), (32, .getfield 26, 3), (35, .iload 4, 2), (37, .invokevirtual 42, 3), (40, .aload_n 3, 1), (41, .getfield 81, 3), (44, .invokevirtual 86, 3), (47, .ifCond .eq 6, 3), (50, .iload 4, 2), (52, .ireturn, 1), (53, .iinc 4 1, 3), (56, .goto (-51), 3), (59, .iconst (-1), 1), (60, .ireturn, 1)]
theorem okX1_partner : ∀ q ∈ iX1_partner, decode cX1_partner q.1 = .ok q.2 := by decide +kernel
def iX1_isThere : List (Nat × Instr × Nat) := [(0, .aload_n 0, 1), (1, .getfield 26, 3), (4, .iload_n 1, 1), (5, .invokevirtual 42, 3), (8, .istore_n 3, 1), (9, .iload_n 3, 1), (10, .iconst (-1), 1), (11, .if_icmp .eq 17, 3), (14, .aload_n 0, 1), (15, .iload_n 3, 1), (16, .iconst 3, 1), (17, .invokevirtual 46, 3), (20, .iload_n 2, 1), (21, .if_icmp .ne 7, 3), (24, .iconst 1, 1), (25, .goto 4, 3), (28, .iconst 0, 1), (29, .ireturn, 1)]
theorem okX1_isThere : ∀ q ∈ iX1_isThere, decode cX1_isThere q.1 = .ok q.2 := by decide +kernel
def iX1_isInZone : List (Nat × Instr × Nat) := [(0, .aload_n 0, 1), (1, .iload_n 1, 1), (2, .invokevirtual 90, 3), (5, .istore_n 3, 1), (6, .aload_n 2, 1), (7, .aload_n 0, 1), (8, .iload_n 1, 1), (9, .iconst 0, 1), (10, .invokevirtual 46, 3), (13, .aload_n 0, 1), (14, .iload_n 1, 1), (15, .iconst 1, 1), (16, .invokevirtual 46, 3), (19, .aload_n 0, 1), (20, .iload_n 3, 1), (21, .iconst 0, 1), (22, .invokevirtual 46, 3), (25, .aload_n 0, 1), (26, .iload_n 3, 1), (27, .iconst 1, 1), (28, .invokevirtual 46, 3), (31, .invokevirtual 93, 3), (34, .ireturn, 1)]
theorem okX1_isInZone : ∀ q ∈ iX1_isInZone, decode cX1_isInZone q.1 = .ok q.2 := by decide +kernel
def iX1_areNear : List (Nat × Instr × Nat) := [(0, .aload_n 0, 1), (1, .iload_n 1, 1), (2, .invokevirtual 90, 3), (5, .iload_n 1, 1), (6, .if_icmp .eq 16, 3), (9, .aload_n 0, 1), (10, .iload_n 2, 1), (11, .invokevirtual 90, 3), (14, .iload_n 2, 1), (15, .if_icmp .eq 7, 3), (18, .iconst 1, 1), (19, .goto 4, 3), (22, .iconst 0, 1), (23, .istore 4, 2), (25, .iload 4, 2), (27, .ifCond .eq 11, 3), (30, .aload_n 0, 1), (31, .iload_n 1, 1), (32, .invokevirtual 90, 3), (35, .goto 4, 3), (38, .iload_n 1, 1), (39, .istore 5, 2), (41, .iload 4, 2), (43, .ifCond .eq 11, 3), (46, .aload_n 0, 1), (47, .iload_n 2, 1), (48, .invokevirtual 90, 3), (51, .goto 4, 3), (54, .iload_n 2, 1), (55, .istore 6, 2), (57, .aload_n 0, 1), (58, .iload_n 1, 1), (59, .iconst 0, 1), (60, .invokevirtual 46, 3), (63, .aload_n 0, 1), (64, .iload_n 2, 1), (65, .iconst 0, 1), (66, .invokevirtual 46, 3), (69, .isub, 1), (70, .i2l, 1), (71, .aload_n 0, 1), (72, .iload_n 1, 1), (73, .iconst 1, 1), (74, .invokevirtual 46, 3), (77, .aload_n 0, 1), (78, .iload_n 2, 1), (79, .iconst 1, 1), (80, .invokevirtual 46, 3), (83, .isub, 1), (84, .i2l, 1), (85, .aload_n 0, 1), (86, .iload_n 1, 1), (87, .iconst 2, 1), (88, .invokevirtual 46, 3), (91, .aload_n 0, 1), (92, .iload_n 2, 1), (93, .iconst 2, 1), (94, .invokevirtual 46, 3), (97, .isub, 1), (98, .i2l, 1), (99, .aload_n 0, 1), (100, .iload 5, 2), (102, .iconst 0, 1), (103, .invokevirtual 46, 3), (106, .aload_n 0, 1), (107, .iload 6, 2), (109, .iconst 0, 1), (110, .invokevirtual 46, 3), (113, .isub, 1), (114, .i2l, 1), (115, .aload_n 0, 1), (116, .iload 5, 2), (118, .iconst 1, 1), (119, .invokevirtual 46, 3), (122, .aload_n 0, 1), (123, .iload 6, 2), (125, .iconst 1, 1), (126, .invokevirtual 46, 3), (129, .isub, 1), (130, .i2l, 1), (131, .aload_n 0, 1), (132, .iload 5, 2), (134, .iconst 2, 1), (135, .invokevirtual 46, 3), (138, .aload_n 0, 1), (139, .iload 6, 2), (141, .iconst 2, 1), (142, .invokevirtual 46, 3), (145, .isub, 1), (146, .i2l, 1), (147, .iload_n 3, 1), (148, .i2l, 1), (149, .invokestatic 96, 3), (152, .ireturn, 1)]
theorem okX1_areNear : ∀ q ∈ iX1_areNear, decode cX1_areNear q.1 = .ok q.2 := by decide +kernel
def iX1_end : List (Nat × Instr × Nat) := [(0, .aload_n 0, 1), (1, .getfield 16, 3), (4, .iload_n 1, 1), (5, .iconst 5, 1), (6, .imul, 1), (7, .iconst 4, 1), (8, .iadd, 1), (9, .invokevirtual 42, 3), (12, .istore_n 2, 1), (13, .aload_n 0, 1), (14, .getfield 16, 3), (17, .iload_n 1, 1), (18, .iconst 5, 1), (19, .imul, 1), (20, .iconst 3, 1), (21, .iadd, 1), (22, .invokevirtual 42, 3), (25, .iconst 1, 1), (26, .iadd, 1), (27, .istore_n 3, 1), (28, .iload_n 2, 1), (29, .iconst (-1), 1), (30, .if_icmp .eq 23, 3), (33, .aload_n 0, 1), (34, .getfield 16, 3), (37, .iload_n 2, 1), (38, .iconst 5, 1), (39, .imul, 1), (40, .iconst 3, 1), (41, .iadd, 1), (42, .invokevirtual 42, 3), (45, .iload_n 3, 1), (46, .if_icmp .ne 7, 3), (49, .iload_n 2, 1), (50, .goto 4, 3), (53, .iload_n 1, 1), (54, .ireturn, 1)]
theorem okX1_end : ∀ q ∈ iX1_end, decode cX1_end q.1 = .ok q.2 := by decide +kernel
def iX1_told : List (Nat × Instr × Nat) := [(0, .aload_n 0, 1), (1, .getfield 16, 3), (4, .iload_n 1, 1), (5, .iconst 5, 1), (6, .imul, 1), (7, .iload_n 2, 1), (8, .iadd, 1), (9, .invokevirtual 42, 3), (12, .ireturn, 1)]
theorem okX1_told : ∀ q ∈ iX1_told, decode cX1_told q.1 = .ok q.2 := by decide +kernel
def iX2_init : List (Nat × Instr × Nat) := [(0, .aload_n 0, 1), (1, .invokespecial 3, 3), (4, .aload_n 0, 1), (5, .new 9, 3), (8, .dup, 1), (9, .invokespecial 11, 3), (12, .putfield 12, 3), (15, .aload_n 0, 1), (16, .bipush 8, 2), (18, .anewarray 9, 3), (21, .putfield 18, 3), (24, .aload_n 0, 1), (25, .new 9, 3), (28, .dup, 1), (29, .invokespecial 11, 3), (32, .putfield 22, 3), (35, .aload_n 0, 1), (36, .iconst 0, 1), (37, .putfield 25, 3), (40, .iconst 0, 1), (41, .istore_n 1, 1), (42, .iload_n 1, 1), (43, .aload_n 0, 1), (44, .getfield 18, 3), (47, .arraylength, 1), (48, .if_icmp .ge 22, 3), (51, .aload_n 0, 1), (52, .getfield 18, 3), (55, .iload_n 1, 1), (56, .new 9, 3), (59, .dup, 1), (60, .invokespecial 11, 3), (63, .aastore, 1), (64, .iinc 1 1, 3), (67, .goto (-25), 3), (70, .return_, 1)]
theorem okX2_init : ∀ q ∈ iX2_init, decode cX2_init q.1 = .ok q.2 := by decide +kernel
def iX2_size : List (Nat × Instr × Nat) := [(0, .aload_n 0, 1), (1, .getfield 25, 3), (4, .ireturn, 1)]
theorem okX2_size : ∀ q ∈ iX2_size, decode cX2_size q.1 = .ok q.2 := by decide +kernel
def iX2_has : List (Nat × Instr × Nat) := [(0, .iload_n 1, 1), (1, .ifCond .lt 15, 3), (4, .iload_n 1, 1), (5, .aload_n 0, 1), (6, .getfield 25, 3), (9, .if_icmp .ge 7, 3), (12, .iconst 1, 1), (13, .goto 4, 3), (16, .iconst 0, 1), (17, .ireturn, 1)]
theorem okX2_has : ∀ q ∈ iX2_has, decode cX2_has q.1 = .ok q.2 := by decide +kernel
def iX2_at : List (Nat × Instr × Nat) := [(0, .iload_n 1, 1), (1, .iconst (-1), 1), (2, .if_icmp .ne 8, 3), (5, .aload_n 0, 1), (6, .getfield 12, 3), (9, .areturn, 1), (10, .iload_n 1, 1), (11, .ifCond .lt 21, 3), (14, .iload_n 1, 1), (15, .aload_n 0, 1), (16, .getfield 18, 3), (19, .arraylength, 1), (20, .if_icmp .ge 12, 3), (23, .aload_n 0, 1), (24, .getfield 18, 3), (27, .iload_n 1, 1), (28, .aaload, 1), (29, .goto 7, 3), (32, .aload_n 0, 1), (33, .getfield 22, 3), (36, .areturn, 1)]
theorem okX2_at : ∀ q ∈ iX2_at, decode cX2_at q.1 = .ok q.2 := by decide +kernel
def iX2_spare : List (Nat × Instr × Nat) := [(0, .aload_n 0, 1), (1, .aload_n 0, 1), (2, .getfield 25, 3), (5, .invokevirtual 29, 3), (8, .areturn, 1)]
theorem okX2_spare : ∀ q ∈ iX2_spare, decode cX2_spare q.1 = .ok q.2 := by decide +kernel
def iX2_keepSpare : List (Nat × Instr × Nat) := [(0, .aload_n 0, 1), (1, .dup, 1), (2, .getfield 25, 3), (5, .iconst 1, 1), (6, .iadd, 1), (7, .putfield 25, 3), (10, .aload_n 0, 1), (11, .getfield 25, 3), (14, .iconst 1, 1), (15, .isub, 1), (16, .ireturn, 1)]
theorem okX2_keepSpare : ∀ q ∈ iX2_keepSpare, decode cX2_keepSpare q.1 = .ok q.2 := by decide +kernel
def iX3_init : List (Nat × Instr × Nat) := [(0, .aload_n 0, 1), (1, .invokespecial 3, 3), (4, .aload_n 0, 1), (5, .new 9, 3), (8, .dup, 1), (9, .bipush 100, 2), (11, .invokespecial 11, 3), (14, .putfield 14, 3), (17, .aload_n 0, 1), (18, .new 9, 3), (21, .dup, 1), (22, .bipush 6, 2), (24, .invokespecial 11, 3), (27, .putfield 20, 3), (30, .aload_n 0, 1), (31, .new 9, 3), (34, .dup, 1), (35, .bipush 6, 2), (37, .invokespecial 11, 3), (40, .putfield 23, 3), (43, .aload_n 0, 1), (44, .iconst 0, 1), (45, .putfield 26, 3), (48, .aload_n 0, 1), (49, .iconst 0, 1), (50, .putfield 30, 3), (53, .aload_n 0, 1), (54, .iconst 0, 1), (55, .putfield 33, 3), (58, .return_, 1)]
theorem okX3_init : ∀ q ∈ iX3_init, decode cX3_init q.1 = .ok q.2 := by decide +kernel
def iX3_settle : List (Nat × Instr × Nat) := [(0, .aload_n 0, 1), (1, .aload_n 1, 1), (2, .invokevirtual 36, 3), (5, .putfield 26, 3), (8, .aload_n 0, 1), (9, .aload_n 0, 1), (10, .getfield 26, 3), (13, .bipush 6, 2), (15, .invokestatic 41, 3), (18, .putfield 30, 3), (21, .aload_n 0, 1), (22, .sipush 1000, 3), (25, .putfield 33, 3), (28, .aload_n 0, 1), (29, .aload_n 1, 1), (30, .iload_n 2, 1), (31, .invokevirtual 47, 3), (34, .aload_n 0, 1), (35, .invokevirtual 51, 3), (38, .ifCond .eq 9, 3), (41, .aload_n 0, 1), (42, .iconst 0, 1), (43, .iconst 0, 1), (44, .invokestatic 55, 3), (47, .aload_n 0, 1), (48, .getfield 33, 3), (51, .sipush 1000, 3), (54, .if_icmp .ne 5, 3), (57, .iconst (-1), 1), (58, .ireturn, 1), (59, .iconst 0, 1), (60, .istore_n 3, 1), (61, .iload_n 3, 1), (62, .aload_n 0, 1), (63, .getfield 26, 3), (66, .if_icmp .ge 22, 3), (69, .aload_n 1, 1), (70, .iload_n 3, 1), (71, .aload_n 0, 1), (72, .getfield 23, 3), (75, .iload_n 3, 1), (76, .invokevirtual 59, 3), (79, .invokevirtual 63, 3), (82, .iinc 3 1, 3), (85, .goto (-24), 3), (88, .aload_n 0, 1), (89, .getfield 33, 3), (92, .ireturn, 1)]
theorem okX3_settle : ∀ q ∈ iX3_settle, decode cX3_settle q.1 = .ok q.2 := by decide +kernel
def iX3_noteMeetings : List (Nat × Instr × Nat) := [(0, .iconst 0, 1), (1, .istore_n 3, 1), (2, .iload_n 3, 1), (3, .aload_n 0, 1), (4, .getfield 26, 3), (7, .if_icmp .ge 88, 3), (10, .iload_n 3, 1), (11, .iconst 1, 1), (12, .iadd, 1), (13, .istore 4, 2), (15, .iload 4, 2), (17, .aload_n 0, 1), (18, .getfield 26, 3), (21, .if_icmp .ge 68, 3), (24, .iconst 0, 1), (25, .istore 5, 2), (27, .bipush (-3), 2), (29, .istore 6, 2), (31, .iload 6, 2), (33, .iconst 3, 1), (34, .if_icmp .gt 33, 3), (37, .aload_n 1, 1), (38, .iload_n 3, 1), (39, .iload 4, 2), (41, .iload 6, 2), (43, .iload_n 2, 1), (44, .invokevirtual 67, 3), (47, .ifCond .eq 14, 3), (50, .iload 5, 2), (52, .iconst 1, 1), (53, .iload 6, 2), (55, .iconst 3, 1), (56, .iadd, 1), (57, .ishl, 1), (58, .ior, 1), (59, .istore 5, 2), (61, .iinc 6 1, 3), (64, .goto (-33), 3), (67, .aload_n 0, 1), (68, .getfield 14, 3), (71, .iload_n 3, 1), (72, .bipush 10, 2), (74, .imul, 1), (75, .iload 4, 2), (77, .iadd, 1), (78, .iload 5, 2), (80, .invokevirtual 71, 3), (83, .iinc 4 1, 3), (86, .goto (-71), 3), (89, .iinc 3 1, 3), (92, .goto (-90), 3), (95, .return_, 1)]
theorem okX3_noteMeetings : ∀ q ∈ iX3_noteMeetings, decode cX3_noteMeetings q.1 = .ok q.2 := by decide +kernel
def iX3_doOthersFit : List (Nat × Instr × Nat) := [(0, .aload_n 0, 1), (1, .getfield 30, 3), (4, .istore_n 1, 1), (5, .iload_n 1, 1), (6, .aload_n 0, 1), (7, .getfield 26, 3), (10, .if_icmp .ge 38, 3), (13, .iload_n 1, 1), (14, .iconst 1, 1), (15, .iadd, 1), (16, .istore_n 2, 1), (17, .iload_n 2, 1), (18, .aload_n 0, 1), (19, .getfield 26, 3), (22, .if_icmp .ge 20, 3), (25, .aload_n 0, 1), (26, .iload_n 1, 1), (27, .iload_n 2, 1), (28, .invokevirtual 74, 3), (31, .ifCond .eq 5, 3), (34, .iconst 0, 1), (35, .ireturn, 1), (36, .iinc 2 1, 3), (39, .goto (-22), 3), (42, .iinc 1 1, 3), (45, .goto (-40), 3), (48, .iconst 1, 1), (49, .ireturn, 1)]
theorem okX3_doOthersFit : ∀ q ∈ iX3_doOthersFit, decode cX3_doOthersFit q.1 = .ok q.2 := by decide +kernel
def iX3_search : List (Nat × Instr × Nat) := [(0, .iload_n 2, 1), (1, .aload_n 0, 1), (2, .getfield 33, 3), (5, .if_icmp .lt 4, 3), (8, .return_, 1), (9, .iload_n 1, 1), (10, .aload_n 0, 1), (11, .getfield 30, 3), (14, .if_icmp .lt 9, 3), (17, .aload_n 0, 1), (18, .iload_n 2, 1), (19, .invokevirtual 78, 3), (22, .return_, 1), (23, .iconst 0, 1), (24, .istore_n 3, 1), (25, .iload_n 3, 1), (26, .iconst 3, 1), (27, .if_icmp .gt 36, 3), (30, .aload_n 0, 1), (31, .getfield 20, 3), (34, .iload_n 1, 1), (35, .iload_n 3, 1), (36, .invokevirtual 71, 3), (39, .aload_n 0, 1), (40, .iload_n 1, 1), (41, .invokevirtual 81, 3), (44, .ifCond .eq 13, 3), (47, .aload_n 0, 1), (48, .iload_n 1, 1), (49, .iconst 1, 1), (50, .iadd, 1), (51, .iload_n 2, 1), (52, .iload_n 3, 1), (53, .iadd, 1), (54, .invokestatic 55, 3), (57, .iinc 3 1, 3), (60, .goto (-35), 3), (63, .return_, 1)]
theorem okX3_search : ∀ q ∈ iX3_search, decode cX3_search q.1 = .ok q.2 := by decide +kernel
def iX3_keepTried : List (Nat × Instr × Nat) := [(0, .aload_n 0, 1), (1, .iload_n 1, 1), (2, .putfield 33, 3), (5, .iconst 0, 1), (6, .istore_n 2, 1), (7, .iload_n 2, 1), (8, .aload_n 0, 1), (9, .getfield 30, 3), (12, .if_icmp .ge 25, 3), (15, .aload_n 0, 1), (16, .getfield 23, 3), (19, .iload_n 2, 1), (20, .aload_n 0, 1), (21, .getfield 20, 3), (24, .iload_n 2, 1), (25, .invokevirtual 59, 3), (28, .invokevirtual 71, 3), (31, .iinc 2 1, 3), (34, .goto (-27), 3), (37, .return_, 1)]
theorem okX3_keepTried : ∀ q ∈ iX3_keepTried, decode cX3_keepTried q.1 = .ok q.2 := by decide +kernel
def iX3_doesFit : List (Nat × Instr × Nat) := [(0, .iconst 0, 1), (1, .istore_n 2, 1), (2, .iload_n 2, 1), (3, .iload_n 1, 1), (4, .if_icmp .ge 20, 3), (7, .aload_n 0, 1), (8, .iload_n 2, 1), (9, .iload_n 1, 1), (10, .invokevirtual 74, 3), (13, .ifCond .eq 5, 3), (16, .iconst 0, 1), (17, .ireturn, 1), (18, .iinc 2 1, 3), (21, .goto (-19), 3), (24, .aload_n 0, 1), (25, .getfield 30, 3), (28, .istore_n 2, 1), (29, .iload_n 2, 1), (30, .aload_n 0, 1), (31, .getfield 26, 3), (34, .if_icmp .ge 20, 3), (37, .aload_n 0, 1), (38, .iload_n 1, 1), (39, .iload_n 2, 1), (40, .invokevirtual 74, 3), (43, .ifCond .eq 5, 3), (46, .iconst 0, 1), (47, .ireturn, 1), (48, .iinc 2 1, 3), (51, .goto (-22), 3), (54, .iconst 1, 1), (55, .ireturn, 1)]
theorem okX3_doesFit : ∀ q ∈ iX3_doesFit, decode cX3_doesFit q.1 = .ok q.2 := by decide +kernel
def iX3_doMeet : List (Nat × Instr × Nat) := [(0, .aload_n 0, 1), (1, .getfield 20, 3), (4, .iload_n 2, 1), (5, .invokevirtual 59, 3), (8, .aload_n 0, 1), (9, .getfield 20, 3), (12, .iload_n 1, 1), (13, .invokevirtual 59, 3), (16, .isub, 1), (17, .iconst 3, 1), (18, .iadd, 1), (19, .istore_n 3, 1), (20, .aload_n 0, 1), (21, .getfield 14, 3), (24, .iload_n 1, 1), (25, .bipush 10, 2), (27, .imul, 1), (28, .iload_n 2, 1), (29, .iadd, 1), (30, .invokevirtual 59, 3), (33, .iload_n 3, 1), (34, .ishr, 1), (35, .iconst 1, 1), (36, .iand, 1), (37, .iconst 1, 1), (38, .if_icmp .ne 7, 3), (41, .iconst 1, 1), (42, .goto 4, 3), (45, .iconst 0, 1), (46, .ireturn, 1)]
theorem okX3_doMeet : ∀ q ∈ iX3_doMeet, decode cX3_doMeet q.1 = .ok q.2 := by decide +kernel
def iX4_init : List (Nat × Instr × Nat) := [(0, .aload_n 0, 1), (1, .invokespecial 3, 3), (4, .aload_n 0, 1), (5, .new 9, 3), (8, .dup, 1), (9, .bipush 80, 2), (11, .invokespecial 13, 3), (14, .putfield 16, 3), (17, .aload_n 0, 1), (18, .iconst 0, 1), (19, .putfield 20, 3), (22, .aload_n 0, 1), (23, .iconst 1, 1), (24, .putfield 24, 3), (27, .return_, 1)]
theorem okX4_init : ∀ q ∈ iX4_init, decode cX4_init q.1 = .ok q.2 := by decide +kernel
def iX4_size : List (Nat × Instr × Nat) := [(0, .aload_n 0, 1), (1, .getfield 20, 3), (4, .ireturn, 1)]
theorem okX4_size : ∀ q ∈ iX4_size, decode cX4_size q.1 = .ok q.2 := by decide +kernel
def iX4_has : List (Nat × Instr × Nat) := [(0, .iload_n 1, 1), (1, .ifCond .lt 15, 3), (4, .iload_n 1, 1), (5, .aload_n 0, 1), (6, .getfield 20, 3), (9, .if_icmp .ge 7, 3), (12, .iconst 1, 1), (13, .goto 4, 3), (16, .iconst 0, 1), (17, .ireturn, 1)]
theorem okX4_has : ∀ q ∈ iX4_has, decode cX4_has q.1 = .ok q.2 := by decide +kernel
def iX4_ticks : List (Nat × Instr × Nat) := [(0, .aload_n 0, 1), (1, .getfield 24, 3), (4, .ireturn, 1)]
theorem okX4_ticks : ∀ q ∈ iX4_ticks, decode cX4_ticks q.1 = .ok q.2 := by decide +kernel
def iX4_goal : List (Nat × Instr × Nat) := [(0, .aload_n 0, 1), (1, .getfield 16, 3), (4, .iload_n 1, 1), (5, .bipush 8, 2), (7, .imul, 1), (8, .bipush 6, 2), (10, .iadd, 1), (11, .invokevirtual 27, 3), (14, .ireturn, 1)]
theorem okX4_goal : ∀ q ∈ iX4_goal, decode cX4_goal q.1 = .ok q.2 := by decide +kernel
def iX4_delayOf : List (Nat × Instr × Nat) := [(0, .aload_n 0, 1), (1, .getfield 16, 3), (4, .iload_n 1, 1), (5, .bipush 8, 2), (7, .imul, 1), (8, .bipush 7, 2), (10, .iadd, 1), (11, .invokevirtual 27, 3), (14, .ireturn, 1)]
theorem okX4_delayOf : ∀ q ∈ iX4_delayOf, decode cX4_delayOf q.1 = .ok q.2 := by decide +kernel
def iX4_setDelay : List (Nat × Instr × Nat) := [(0, .aload_n 0, 1), (1, .getfield 16, 3), (4, .iload_n 1, 1), (5, .bipush 8, 2), (7, .imul, 1), (8, .bipush 7, 2), (10, .iadd, 1), (11, .iload_n 2, 1), (12, .invokevirtual 31, 3), (15, .return_, 1)]
theorem okX4_setDelay : ∀ q ∈ iX4_setDelay, decode cX4_setDelay q.1 = .ok q.2 := by decide +kernel
def iX4_lead : List (Nat × Instr × Nat) := [(0, .aload 4, 2), (2, .aload_n 1, 1), (3, .aload_n 2, 1), (4, .invokevirtual 35, 3), (7, .istore 5, 2), (9, .aload_n 0, 1), (10, .aload_n 1, 1), (11, .invokevirtual 41, 3), (14, .putfield 20, 3), (17, .aload_n 0, 1), (18, .iload_n 3, 1), (19, .putfield 24, 3), (22, .iconst 0, 1), (23, .istore 6, 2), (25, .iload 6, 2), (27, .aload_n 0, 1), (28, .getfield 20, 3), (31, .if_icmp .ge 112, 3), (34, .aload 4, 2), (36, .iload 6, 2), (38, .invokevirtual 46, 3), (41, .istore 7, 2), (43, .iconst 0, 1), (44, .istore 8, 2), (46, .iload 8, 2), (48, .iconst 3, 1), (49, .if_icmp .ge 64, 3), (52, .aload_n 1, 1), (53, .iload 6, 2), (55, .iload 8, 2), (57, .invokevirtual 49, 3), (60, .istore 9, 2), (62, .aload_n 0, 1), (63, .getfield 16, 3), (66, .iload 6, 2), (68, .bipush 8, 2), (70, .imul, 1), (71, .iload 8, 2), (73, .iadd, 1), (74, .iload 9, 2), (76, .invokevirtual 31, 3), (79, .aload_n 0, 1), (80, .getfield 16, 3), (83, .iload 6, 2), (85, .bipush 8, 2), (87, .imul, 1), (88, .iconst 3, 1), (89, .iadd, 1), (90, .iload 8, 2), (92, .iadd, 1), (93, .aload_n 2, 1), (94, .iload 7, 2), (96, .iload 8, 2), (98, .invokevirtual 49, 3), (101, .iload 9, 2), (103, .isub, 1), (104, .invokevirtual 31, 3), (107, .iinc 8 1, 3), (110, .goto (-64), 3), (113, .aload_n 0, 1), (114, .getfield 16, 3), (117, .iload 6, 2), (119, .bipush 8, 2), (121, .imul, 1), (122, .bipush 6, 2), (124, .iadd, 1), (125, .iload 7, 2), (127, .invokevirtual 31, 3), (130, .aload_n 0, 1), (131, .iload 6, 2), (133, .iconst 0, 1), (134, .invokevirtual 53, 3), (137, .iinc 6 1, 3), (140, .goto (-115), 3), (143, .iload 5, 2), (145, .ireturn, 1)]
theorem okX4_lead : ∀ q ∈ iX4_lead, decode cX4_lead q.1 = .ok q.2 := by decide +kernel
def iX4_charge : List (Nat × Instr × Nat) := [(0, .aload_n 0, 1), (1, .getfield 16, 3), (4, .iload_n 1, 1), (5, .bipush 8, 2), (7, .imul, 1), (8, .iconst 3, 1), (9, .iadd, 1), (10, .iconst 2, 1), (11, .iadd, 1), (12, .invokevirtual 27, 3), (15, .ifCond .le 7, 3), (18, .iconst 1, 1), (19, .goto 4, 3), (22, .iconst 0, 1), (23, .istore_n 2, 1), (24, .aload_n 0, 1), (25, .getfield 24, 3), (28, .iload_n 2, 1), (29, .ifCond .eq 7, 3), (32, .iconst 4, 1), (33, .goto 4, 3), (36, .iconst 3, 1), (37, .imul, 1), (38, .ireturn, 1)]
theorem okX4_charge : ∀ q ∈ iX4_charge, decode cX4_charge q.1 = .ok q.2 := by decide +kernel
def iX4_isInZone : List (Nat × Instr × Nat) := [(0, .aload_n 0, 1), (1, .getfield 16, 3), (4, .iload_n 1, 1), (5, .bipush 8, 2), (7, .imul, 1), (8, .iconst 0, 1), (9, .iadd, 1), (10, .invokevirtual 27, 3), (13, .istore_n 3, 1), (14, .aload_n 0, 1), (15, .getfield 16, 3), (18, .iload_n 1, 1), (19, .bipush 8, 2), (21, .imul, 1), (22, .iconst 1, 1), (23, .iadd, 1), (24, .invokevirtual 27, 3), (27, .istore 4, 2), (29, .iload_n 3, 1), (30, .aload_n 0, 1), (31, .getfield 16, 3), (34, .iload_n 1, 1), (35, .bipush 8, 2), (37, .imul, 1), (38, .iconst 3, 1), (39, .iadd, 1), (40, .iconst 0, 1), (41, .iadd, 1), (42, .invokevirtual 27, 3), (45, .iadd, 1), (46, .istore 5, 2), (48, .iload 4, 2), (50, .aload_n 0, 1), (51, .getfield 16, 3), (54, .iload_n 1, 1), (55, .bipush 8, 2), (57, .imul, 1), (58, .iconst 3, 1), (59, .iadd, 1), (60, .iconst 1, 1), (61, .iadd, 1), (62, .invokevirtual 27, 3), (65, .iadd, 1), (66, .istore 6, 2), (68, .aload_n 2, 1), (69, .iload_n 3, 1), (70, .iload 4, 2), (72, .iload 5, 2), (74, .iload 6, 2), (76, .invokevirtual 56, 3), (79, .ireturn, 1)]
theorem okX4_isInZone : ∀ q ∈ iX4_isInZone, decode cX4_isInZone q.1 = .ok q.2 := by decide +kernel
def iX4_isAnyInZone : List (Nat × Instr × Nat) := [(0, .iconst 0, 1), (1, .istore_n 2, 1), (2, .iload_n 2, 1), (3, .aload_n 0, 1), (4, .getfield 20, 3), (7, .if_icmp .ge 20, 3), (10, .aload_n 0, 1), (11, .iload_n 2, 1), (12, .aload_n 1, 1), (13, .invokevirtual 62, 3), (16, .ifCond .eq 5, 3), (19, .iconst 1, 1), (20, .ireturn, 1), (21, .iinc 2 1, 3), (24, .goto (-22), 3), (27, .iconst 0, 1), (28, .ireturn, 1)]
theorem okX4_isAnyInZone : ∀ q ∈ iX4_isAnyInZone, decode cX4_isAnyInZone q.1 = .ok q.2 := by decide +kernel
def iX4_isClean : List (Nat × Instr × Nat) := [(0, .iconst 0, 1), (1, .istore_n 2, 1), (2, .iload_n 2, 1), (3, .aload_n 0, 1), (4, .getfield 20, 3), (7, .if_icmp .ge 53, 3), (10, .iload_n 2, 1), (11, .iconst 1, 1), (12, .iadd, 1), (13, .istore_n 3, 1), (14, .iload_n 3, 1), (15, .aload_n 0, 1), (16, .getfield 20, 3), (19, .if_icmp .ge 35, 3), (22, .aload_n 0, 1), (23, .iload_n 2, 1), (24, .iload_n 3, 1), (25, .aload_n 0, 1), (26, .iload_n 3, 1), (27, .invokevirtual 65, 3), (30, .aload_n 0, 1), (31, .iload_n 2, 1), (32, .invokevirtual 65, 3), (35, .isub, 1), (36, .aload_n 1, 1), (37, .getfield 68, 3), (40, .invokevirtual 71, 3), (43, .ifCond .eq 5, 3), (46, .iconst 0, 1), (47, .ireturn, 1), (48, .iinc 3 1, 3), (51, .goto (-37), 3), (54, .iinc 2 1, 3), (57, .goto (-55), 3), (60, .aload_n 0, 1), (61, .aload_n 1, 1), (62, .invokevirtual 74, 3), (65, .ifCond .ne 7, 3), (68, .iconst 1, 1), (69, .goto 4, 3), (72, .iconst 0, 1), (73, .ireturn, 1)]
theorem okX4_isClean : ∀ q ∈ iX4_isClean, decode cX4_isClean q.1 = .ok q.2 := by decide +kernel
def iX4_meet : List (Nat × Instr × Nat) := [(0, .iconst 0, 1), (1, .iload_n 3, 1), (2, .invokestatic 78, 3), (5, .istore 5, 2), (7, .iconst 0, 1), (8, .iload_n 3, 1), (9, .invokestatic 83, 3), (12, .istore 6, 2), (14, .iload 5, 2), (16, .aload_n 0, 1), (17, .getfield 24, 3), (20, .iadd, 1), (21, .istore 7, 2), (23, .iload 6, 2), (25, .iload 7, 2), (27, .invokestatic 78, 3), (30, .istore 8, 2), (32, .iload 6, 2), (34, .iload 7, 2), (36, .invokestatic 83, 3), (39, .istore 9, 2), (41, .aload_n 0, 1), (42, .iload_n 1, 1), (43, .iload_n 2, 1), (44, .iload_n 3, 1), (45, .iload 5, 2), (47, .iload 8, 2), (49, .iload 4, 2), (51, .invokevirtual 86, 3), (54, .ifCond .ne 40, 3), (57, .aload_n 0, 1), (58, .iload_n 1, 1), (59, .iload_n 2, 1), (60, .iload_n 3, 1), (61, .iload 8, 2), (63, .iload 9, 2), (65, .iload 4, 2), (67, .invokevirtual 86, 3), (70, .ifCond .ne 24, 3), (73, .aload_n 0, 1), (74, .iload_n 1, 1), (75, .iload_n 2, 1), (76, .iload_n 3, 1), (77, .iload 9, 2), (79, .iload 6, 2), (81, .aload_n 0, 1), (82, .getfield 24, 3), (85, .iadd, 1), (86, .iload 4, 2), (88, .invokevirtual 86, 3), (91, .ifCond .eq 7, 3), (94, .iconst 1, 1), (95, .goto 4, 3), (98, .iconst 0, 1), (99, .ireturn, 1)]
theorem okX4_meet : ∀ q ∈ iX4_meet, decode cX4_meet q.1 = .ok q.2 := by decide +kernel
def iX4_meetBetween : List (Nat × Instr × Nat) := [(0, .aload_n 0, 1), (1, .iload_n 1, 1), (2, .iload_n 2, 1), (3, .iconst 0, 1), (4, .iload 4, 2), (6, .iload 4, 2), (8, .iload_n 3, 1), (9, .isub, 1), (10, .invokevirtual 90, 3), (13, .i2l, 1), (14, .aload_n 0, 1), (15, .iload_n 1, 1), (16, .iload_n 2, 1), (17, .iconst 1, 1), (18, .iload 4, 2), (20, .iload 4, 2), (22, .iload_n 3, 1), (23, .isub, 1), (24, .invokevirtual 90, 3), (27, .i2l, 1), (28, .aload_n 0, 1), (29, .iload_n 1, 1), (30, .iload_n 2, 1), (31, .iconst 2, 1), (32, .iload 4, 2), (34, .iload 4, 2), (36, .iload_n 3, 1), (37, .isub, 1), (38, .invokevirtual 90, 3), (41, .i2l, 1), (42, .aload_n 0, 1), (43, .iload_n 1, 1), (44, .iload_n 2, 1), (45, .iconst 0, 1), (46, .iload 5, 2), (48, .iload 5, 2), (50, .iload_n 3, 1), (51, .isub, 1), (52, .invokevirtual 90, 3), (55, .i2l, 1), (56, .aload_n 0, 1), (57, .iload_n 1, 1), (58, .iload_n 2, 1), (59, .iconst 1, 1), (60, .iload 5, 2), (62, .iload 5, 2), (64, .iload_n 3, 1), (65, .isub, 1), (66, .invokevirtual 90, 3), (69, .i2l, 1), (70, .aload_n 0, 1), (71, .iload_n 1, 1), (72, .iload_n 2, 1), (73, .iconst 2, 1), (74, .iload 5, 2), (76, .iload 5, 2), (78, .iload_n 3, 1), (79, .isub, 1), (80, .invokevirtual 90, 3), (83, .i2l, 1), (84, .iload 6, 2), (86, .aload_n 0, 1), (87, .getfield 24, 3), (90, .imul, 1), (91, .i2l, 1), (92, .invokestatic 94, 3), (95, .ireturn, 1)]
theorem okX4_meetBetween : ∀ q ∈ iX4_meetBetween, decode cX4_meetBetween q.1 = .ok q.2 := by decide +kernel
def iX4_apart : List (Nat × Instr × Nat) := [(0, .aload_n 0, 1), (1, .getfield 16, 3), (4, .iload_n 1, 1), (5, .bipush 8, 2), (7, .imul, 1), (8, .iload_n 3, 1), (9, .iadd, 1), (10, .invokevirtual 27, 3), (13, .aload_n 0, 1), (14, .getfield 16, 3), (17, .iload_n 2, 1), (18, .bipush 8, 2), (20, .imul, 1), (21, .iload_n 3, 1), (22, .iadd, 1), (23, .invokevirtual 27, 3), (26, .isub, 1), (27, .istore 6, 2), (29, .aload_n 0, 1), (30, .getfield 16, 3), (33, .iload_n 1, 1), (34, .bipush 8, 2), (36, .imul, 1), (37, .iconst 3, 1), (38, .iadd, 1), (39, .iload_n 3, 1), (40, .iadd, 1), (41, .invokevirtual 27, 3), (44, .aload_n 0, 1), (45, .iload 4, 2), (47, .invokevirtual 98, 3), (50, .imul, 1), (51, .istore 7, 2), (53, .aload_n 0, 1), (54, .getfield 16, 3), (57, .iload_n 2, 1), (58, .bipush 8, 2), (60, .imul, 1), (61, .iconst 3, 1), (62, .iadd, 1), (63, .iload_n 3, 1), (64, .iadd, 1), (65, .invokevirtual 27, 3), (68, .aload_n 0, 1), (69, .iload 5, 2), (71, .invokevirtual 98, 3), (74, .imul, 1), (75, .istore 8, 2), (77, .iload 6, 2), (79, .aload_n 0, 1), (80, .getfield 24, 3), (83, .imul, 1), (84, .iload 7, 2), (86, .iadd, 1), (87, .iload 8, 2), (89, .isub, 1), (90, .ireturn, 1)]
theorem okX4_apart : ∀ q ∈ iX4_apart, decode cX4_apart q.1 = .ok q.2 := by decide +kernel
def iX4_under : List (Nat × Instr × Nat) := [(0, .iconst 0, 1), (1, .aload_n 0, 1), (2, .getfield 24, 3), (5, .iload_n 1, 1), (6, .invokestatic 78, 3), (9, .invokestatic 83, 3), (12, .ireturn, 1)]
theorem okX4_under : ∀ q ∈ iX4_under, decode cX4_under q.1 = .ok q.2 := by decide +kernel
def iX5_init : List (Nat × Instr × Nat) := [(0, .aload_n 0, 1), (1, .invokespecial 3, 3), (4, .aload_n 0, 1), (5, .new 9, 3), (8, .dup, 1), (9, .bipush 40, 2), (11, .invokespecial 13, 3), (14, .putfield 16, 3), (17, .aload_n 0, 1), (18, .iconst 0, 1), (19, .putfield 20, 3), (22, .return_, 1)]
theorem okX5_init : ∀ q ∈ iX5_init, decode cX5_init q.1 = .ok q.2 := by decide +kernel
def iX5_size : List (Nat × Instr × Nat) := [(0, .aload_n 0, 1), (1, .getfield 20, 3), (4, .ireturn, 1)]
theorem okX5_size : ∀ q ∈ iX5_size, decode cX5_size q.1 = .ok q.2 := by decide +kernel
def iX5_has : List (Nat × Instr × Nat) := [(0, .iload_n 1, 1), (1, .ifCond .lt 15, 3), (4, .iload_n 1, 1), (5, .aload_n 0, 1), (6, .getfield 20, 3), (9, .if_icmp .ge 7, 3), (12, .iconst 1, 1), (13, .goto 4, 3), (16, .iconst 0, 1), (17, .ireturn, 1)]
theorem okX5_has : ∀ q ∈ iX5_has, decode cX5_has q.1 = .ok q.2 := by decide +kernel
def iX5_empty : List (Nat × Instr × Nat) := [(0, .aload_n 0, 1), (1, .iconst 0, 1), (2, .putfield 20, 3), (5, .return_, 1)]
theorem okX5_empty : ∀ q ∈ iX5_empty, decode cX5_empty q.1 = .ok q.2 := by decide +kernel
def iX5_add : List (Nat × Instr × Nat) := [(0, .aload_n 0, 1), (1, .getfield 20, 3), (4, .bipush 10, 2), (6, .if_icmp .ge 78, 3), (9, .aload_n 0, 1), (10, .getfield 16, 3), (13, .aload_n 0, 1), (14, .getfield 20, 3), (17, .iconst 4, 1), (18, .imul, 1), (19, .iconst 0, 1), (20, .iadd, 1), (21, .iload_n 1, 1), (22, .invokevirtual 24, 3), (25, .aload_n 0, 1), (26, .getfield 16, 3), (29, .aload_n 0, 1), (30, .getfield 20, 3), (33, .iconst 4, 1), (34, .imul, 1), (35, .iconst 1, 1), (36, .iadd, 1), (37, .iload_n 2, 1), (38, .invokevirtual 24, 3), (41, .aload_n 0, 1), (42, .getfield 16, 3), (45, .aload_n 0, 1), (46, .getfield 20, 3), (49, .iconst 4, 1), (50, .imul, 1), (51, .iconst 2, 1), (52, .iadd, 1), (53, .iload_n 3, 1), (54, .invokevirtual 24, 3), (57, .aload_n 0, 1), (58, .getfield 16, 3), (61, .aload_n 0, 1), (62, .getfield 20, 3), (65, .iconst 4, 1), (66, .imul, 1), (67, .iconst 3, 1), (68, .iadd, 1), (69, .iload 4, 2), (71, .invokevirtual 24, 3), (74, .aload_n 0, 1), (75, .dup, 1), (76, .getfield 20, 3), (79, .iconst 1, 1), (80, .iadd, 1), (81, .putfield 20, 3), (84, .return_, 1)]
theorem okX5_add : ∀ q ∈ iX5_add, decode cX5_add q.1 = .ok q.2 := by decide +kernel
def iX5_told : List (Nat × Instr × Nat) := [(0, .aload_n 0, 1), (1, .getfield 16, 3), (4, .iload_n 1, 1), (5, .iconst 4, 1), (6, .imul, 1), (7, .iload_n 2, 1), (8, .iadd, 1), (9, .invokevirtual 28, 3), (12, .ireturn, 1)]
theorem okX5_told : ∀ q ∈ iX5_told, decode cX5_told q.1 = .ok q.2 := by decide +kernel
def iX5_way : List (Nat × Instr × Nat) := [(0, .iconst 0, 1), (1, .istore 4, 2), (3, .iconst 0, 1), (4, .istore 5, 2), (6, .iload 5, 2), (8, .iconst 3, 1), (9, .if_icmp .ge 48, 3), (12, .aload_n 0, 1), (13, .getfield 16, 3), (16, .iload_n 1, 1), (17, .iconst 4, 1), (18, .imul, 1), (19, .iload 5, 2), (21, .iadd, 1), (22, .invokevirtual 28, 3), (25, .aload_n 2, 1), (26, .getfield 16, 3), (29, .iload_n 3, 1), (30, .iconst 4, 1), (31, .imul, 1), (32, .iload 5, 2), (34, .iadd, 1), (35, .invokevirtual 28, 3), (38, .isub, 1), (39, .istore 6, 2), (41, .iload 4, 2), (43, .iload 6, 2), (45, .iload 6, 2), (47, .imul, 1), (48, .iadd, 1), (49, .istore 4, 2), (51, .iinc 5 1, 3), (54, .goto (-48), 3), (57, .iload 4, 2), (59, .ireturn, 1)]
theorem okX5_way : ∀ q ∈ iX5_way, decode cX5_way q.1 = .ok q.2 := by decide +kernel
def iX5_leastWay : List (Nat × Instr × Nat) := [(0, .ldc 34, 2), (2, .istore_n 1, 1), (3, .iconst 0, 1), (4, .istore_n 2, 1), (5, .iload_n 2, 1), (6, .aload_n 0, 1), (7, .getfield 20, 3), (10, .if_icmp .ge 39, 3), (13, .iload_n 2, 1), (14, .iconst 1, 1), (15, .iadd, 1), (16, .istore_n 3, 1), (17, .iload_n 3, 1), (18, .aload_n 0, 1), (19, .getfield 20, 3), (22, .if_icmp .ge 21, 3), (25, .iload_n 1, 1), (26, .aload_n 0, 1), (27, .iload_n 2, 1), (28, .aload_n 0, 1), (29, .iload_n 3, 1), (30, .invokevirtual 35, 3), (33, .invokestatic 39, 3), (36, .istore_n 1, 1), (37, .iinc 3 1, 3), (40, .goto (-23), 3), (43, .iinc 2 1, 3), (46, .goto (-41), 3), (49, .iload_n 1, 1), (50, .ireturn, 1)]
theorem okX5_leastWay : ∀ q ∈ iX5_leastWay, decode cX5_leastWay q.1 = .ok q.2 := by decide +kernel
def iX6_init : List (Nat × Instr × Nat) := [(0, .aload_n 0, 1), (1, .invokespecial 3, 3), (4, .aload_n 0, 1), (5, .new 9, 3), (8, .dup, 1), (9, .bipush 100, 2), (11, .invokespecial 11, 3), (14, .putfield 14, 3), (17, .aload_n 0, 1), (18, .new 9, 3), (21, .dup, 1), (22, .sipush 1024, 3), (25, .invokespecial 11, 3), (28, .putfield 20, 3), (31, .aload_n 0, 1), (32, .new 9, 3), (35, .dup, 1), (36, .bipush 10, 2), (38, .invokespecial 11, 3), (41, .putfield 23, 3), (44, .return_, 1)]
theorem okX6_init : ∀ q ∈ iX6_init, decode cX6_init q.1 = .ok q.2 := by decide +kernel
def iX6_goal : List (Nat × Instr × Nat) := [(0, .aload_n 0, 1), (1, .getfield 23, 3), (4, .iload_n 1, 1), (5, .invokevirtual 26, 3), (8, .ireturn, 1)]
theorem okX6_goal : ∀ q ∈ iX6_goal, decode cX6_goal q.1 = .ok q.2 := by decide +kernel
def iX6_plan : List (Nat × Instr × Nat) := [(0, .aload_n 1, 1), (1, .invokevirtual 30, 3), (4, .aload_n 2, 1), (5, .invokevirtual 30, 3), (8, .invokestatic 36, 3), (11, .istore_n 3, 1), (12, .iconst 0, 1), (13, .istore 4, 2), (15, .iload 4, 2), (17, .iload_n 3, 1), (18, .if_icmp .ge 48, 3), (21, .iconst 0, 1), (22, .istore 5, 2), (24, .iload 5, 2), (26, .iload_n 3, 1), (27, .if_icmp .ge 33, 3), (30, .aload_n 0, 1), (31, .getfield 14, 3), (34, .iload 4, 2), (36, .bipush 10, 2), (38, .imul, 1), (39, .iload 5, 2), (41, .iadd, 1), (42, .aload_n 1, 1), (43, .iload 4, 2), (45, .aload_n 2, 1), (46, .iload 5, 2), (48, .invokevirtual 42, 3), (51, .invokevirtual 46, 3), (54, .iinc 5 1, 3), (57, .goto (-33), 3), (60, .iinc 4 1, 3), (63, .goto (-48), 3), (66, .aload_n 0, 1), (67, .iload_n 3, 1), (68, .invokevirtual 50, 3), (71, .aload_n 0, 1), (72, .iload_n 3, 1), (73, .invokevirtual 53, 3), (76, .aload_n 0, 1), (77, .getfield 20, 3), (80, .iconst 0, 1), (81, .invokevirtual 26, 3), (84, .ireturn, 1)]
theorem okX6_plan : ∀ q ∈ iX6_plan, decode cX6_plan q.1 = .ok q.2 := by decide +kernel
def iX6_weigh : List (Nat × Instr × Nat) := [(0, .iconst 1, 1), (1, .iload_n 1, 1), (2, .ishl, 1), (3, .iconst 1, 1), (4, .isub, 1), (5, .istore_n 2, 1), (6, .aload_n 0, 1), (7, .getfield 20, 3), (10, .iload_n 2, 1), (11, .iconst 0, 1), (12, .invokevirtual 46, 3), (15, .iload_n 2, 1), (16, .iconst 1, 1), (17, .isub, 1), (18, .istore_n 3, 1), (19, .iload_n 3, 1), (20, .ifCond .lt 61, 3), (23, .ldc 56, 2), (25, .istore 4, 2), (27, .iconst 0, 1), (28, .istore 5, 2), (30, .iload 5, 2), (32, .iload_n 1, 1), (33, .if_icmp .ge 32, 3), (36, .iload_n 3, 1), (37, .iload 5, 2), (39, .ishr, 1), (40, .iconst 1, 1), (41, .iand, 1), (42, .ifCond .ne 17, 3), (45, .iload 4, 2), (47, .aload_n 0, 1), (48, .iload_n 3, 1), (49, .iload 5, 2), (51, .invokevirtual 57, 3), (54, .invokestatic 36, 3), (57, .istore 4, 2), (59, .iinc 5 1, 3), (62, .goto (-32), 3), (65, .aload_n 0, 1), (66, .getfield 20, 3), (69, .iload_n 3, 1), (70, .iload 4, 2), (72, .invokevirtual 46, 3), (75, .iinc 3 (-1), 3), (78, .goto (-59), 3), (81, .return_, 1)]
theorem okX6_weigh : ∀ q ∈ iX6_weigh, decode cX6_weigh q.1 = .ok q.2 := by decide +kernel
def iX6_choose : List (Nat × Instr × Nat) := [(0, .iconst 0, 1), (1, .istore_n 2, 1), (2, .iconst 0, 1), (3, .istore_n 3, 1), (4, .iload_n 3, 1), (5, .iload_n 1, 1), (6, .if_icmp .ge 34, 3), (9, .aload_n 0, 1), (10, .iload_n 1, 1), (11, .iload_n 2, 1), (12, .invokevirtual 60, 3), (15, .istore 4, 2), (17, .aload_n 0, 1), (18, .getfield 23, 3), (21, .iload_n 3, 1), (22, .iload 4, 2), (24, .invokevirtual 46, 3), (27, .iload_n 2, 1), (28, .iconst 1, 1), (29, .iload 4, 2), (31, .ishl, 1), (32, .ior, 1), (33, .istore_n 2, 1), (34, .iinc 3 1, 3), (37, .goto (-33), 3), (40, .return_, 1)]
theorem okX6_choose : ∀ q ∈ iX6_choose, decode cX6_choose q.1 = .ok q.2 := by decide +kernel
def iX6_leastGoal : List (Nat × Instr × Nat) := [(0, .iconst 0, 1), (1, .istore_n 3, 1), (2, .iload_n 3, 1), (3, .iload_n 1, 1), (4, .if_icmp .ge 36, 3), (7, .iload_n 2, 1), (8, .iload_n 3, 1), (9, .ishr, 1), (10, .iconst 1, 1), (11, .iand, 1), (12, .ifCond .ne 22, 3), (15, .aload_n 0, 1), (16, .iload_n 2, 1), (17, .iload_n 3, 1), (18, .invokevirtual 57, 3), (21, .aload_n 0, 1), (22, .getfield 20, 3), (25, .iconst 0, 1), (26, .invokevirtual 26, 3), (29, .if_icmp .gt 5, 3), (32, .iload_n 3, 1), (33, .ireturn, 1), (34, .iinc 3 1, 3), (37, .goto (-35), 3), (40, .iconst 0, 1), (41, .ireturn, 1)]
theorem okX6_leastGoal : ∀ q ∈ iX6_leastGoal, decode cX6_leastGoal q.1 = .ok q.2 := by decide +kernel
def iX6_needWith : List (Nat × Instr × Nat) := [(0, .iload_n 1, 1), (1, .invokestatic 63, 3), (4, .istore_n 3, 1), (5, .aload_n 0, 1), (6, .getfield 14, 3), (9, .iload_n 3, 1), (10, .bipush 10, 2), (12, .imul, 1), (13, .iload_n 2, 1), (14, .iadd, 1), (15, .invokevirtual 26, 3), (18, .aload_n 0, 1), (19, .getfield 20, 3), (22, .iload_n 1, 1), (23, .iconst 1, 1), (24, .iload_n 2, 1), (25, .ishl, 1), (26, .ior, 1), (27, .invokevirtual 26, 3), (30, .invokestatic 68, 3), (33, .ireturn, 1)]
theorem okX6_needWith : ∀ q ∈ iX6_needWith, decode cX6_needWith q.1 = .ok q.2 := by decide +kernel
def iX7_init : List (Nat × Instr × Nat) := [(0, .aload_n 0, 1), (1, .invokespecial 1, 3), (4, .aload_n 0, 1), (5, .iload_n 1, 1), (6, .ifCond .le 7, 3), (9, .iload_n 1, 1), (10, .goto 4, 3), (13, .iconst 0, 1), (14, .newarray .int, 2), (16, .putfield 7, 3), (19, .return_, 1)]
theorem okX7_init : ∀ q ∈ iX7_init, decode cX7_init q.1 = .ok q.2 := by decide +kernel
def iX7_at : List (Nat × Instr × Nat) := [(0, .iload_n 1, 1), (1, .ifCond .lt 21, 3), (4, .iload_n 1, 1), (5, .aload_n 0, 1), (6, .getfield 7, 3), (9, .arraylength, 1), (10, .if_icmp .ge 12, 3), (13, .aload_n 0, 1), (14, .getfield 7, 3), (17, .iload_n 1, 1), (18, .iaload, 1), (19, .goto 4, 3), (22, .iconst 0, 1), (23, .ireturn, 1)]
theorem okX7_at : ∀ q ∈ iX7_at, decode cX7_at q.1 = .ok q.2 := by decide +kernel
def iX7_put : List (Nat × Instr × Nat) := [(0, .iload_n 1, 1), (1, .ifCond .lt 19, 3), (4, .iload_n 1, 1), (5, .aload_n 0, 1), (6, .getfield 7, 3), (9, .arraylength, 1), (10, .if_icmp .ge 10, 3), (13, .aload_n 0, 1), (14, .getfield 7, 3), (17, .iload_n 1, 1), (18, .iload_n 2, 1), (19, .iastore, 1), (20, .return_, 1)]
theorem okX7_put : ∀ q ∈ iX7_put, decode cX7_put q.1 = .ok q.2 := by decide +kernel
def iX7_fill : List (Nat × Instr × Nat) := [(0, .iconst 0, 1), (1, .istore_n 2, 1), (2, .iload_n 2, 1), (3, .aload_n 0, 1), (4, .getfield 7, 3), (7, .arraylength, 1), (8, .if_icmp .ge 16, 3), (11, .aload_n 0, 1), (12, .getfield 7, 3), (15, .iload_n 2, 1), (16, .iload_n 1, 1), (17, .iastore, 1), (18, .iinc 2 1, 3), (21, .goto (-19), 3), (24, .return_, 1)]
theorem okX7_fill : ∀ q ∈ iX7_fill, decode cX7_fill q.1 = .ok q.2 := by decide +kernel
def iX8_init : List (Nat × Instr × Nat) := [(0, .aload_n 0, 1), (1, .invokespecial 1, 3), (4, .aload_n 0, 1), (5, .new 7, 3), (8, .dup, 1), (9, .invokespecial 9, 3), (12, .putfield 10, 3), (15, .aload_n 0, 1), (16, .new 7, 3), (19, .dup, 1), (20, .invokespecial 9, 3), (23, .putfield 16, 3), (26, .aload_n 0, 1), (27, .iconst 0, 1), (28, .putfield 19, 3), (31, .aload_n 0, 1), (32, .iconst 0, 1), (33, .putfield 23, 3), (36, .aload_n 0, 1), (37, .iconst 0, 1), (38, .putfield 26, 3), (41, .return_, 1)]
theorem okX8_init : ∀ q ∈ iX8_init, decode cX8_init q.1 = .ok q.2 := by decide +kernel
def iX8_ticks : List (Nat × Instr × Nat) := [(0, .aload_n 0, 1), (1, .getfield 10, 3), (4, .invokevirtual 29, 3), (7, .aload_n 0, 1), (8, .getfield 23, 3), (11, .iadd, 1), (12, .ireturn, 1)]
theorem okX8_ticks : ∀ q ∈ iX8_ticks, decode cX8_ticks q.1 = .ok q.2 := by decide +kernel
def iX9_init : List (Nat × Instr × Nat) := [(0, .aload_n 0, 1), (1, .invokespecial 3, 3), (4, .aload_n 0, 1), (5, .bipush 12, 2), (7, .anewarray 9, 3), (10, .putfield 11, 3), (13, .aload_n 0, 1), (14, .new 9, 3), (17, .dup, 1), (18, .invokespecial 17, 3), (21, .putfield 18, 3), (24, .aload_n 0, 1), (25, .new 22, 3), (28, .dup, 1), (29, .bipush 10, 2), (31, .invokespecial 24, 3), (34, .putfield 27, 3), (37, .aload_n 0, 1), (38, .iconst 0, 1), (39, .putfield 31, 3), (42, .aload_n 0, 1), (43, .bipush 50, 2), (45, .putfield 35, 3), (48, .iconst 0, 1), (49, .istore_n 1, 1), (50, .iload_n 1, 1), (51, .aload_n 0, 1), (52, .getfield 11, 3), (55, .arraylength, 1), (56, .if_icmp .ge 22, 3), (59, .aload_n 0, 1), (60, .getfield 11, 3), (63, .iload_n 1, 1), (64, .new 9, 3), (67, .dup, 1), (68, .invokespecial 17, 3), (71, .aastore, 1), (72, .iinc 1 1, 3), (75, .goto (-25), 3), (78, .return_, 1)]
theorem okX9_init : ∀ q ∈ iX9_init, decode cX9_init q.1 = .ok q.2 := by decide +kernel
def iX9_size : List (Nat × Instr × Nat) := [(0, .aload_n 0, 1), (1, .getfield 31, 3), (4, .ireturn, 1)]
theorem okX9_size : ∀ q ∈ iX9_size, decode cX9_size q.1 = .ok q.2 := by decide +kernel
def iX9_has : List (Nat × Instr × Nat) := [(0, .iload_n 1, 1), (1, .ifCond .lt 15, 3), (4, .iload_n 1, 1), (5, .aload_n 0, 1), (6, .getfield 31, 3), (9, .if_icmp .ge 7, 3), (12, .iconst 1, 1), (13, .goto 4, 3), (16, .iconst 0, 1), (17, .ireturn, 1)]
theorem okX9_has : ∀ q ∈ iX9_has, decode cX9_has q.1 = .ok q.2 := by decide +kernel
def iX9_at : List (Nat × Instr × Nat) := [(0, .iload_n 1, 1), (1, .ifCond .lt 21, 3), (4, .iload_n 1, 1), (5, .aload_n 0, 1), (6, .getfield 11, 3), (9, .arraylength, 1), (10, .if_icmp .ge 12, 3), (13, .aload_n 0, 1), (14, .getfield 11, 3), (17, .iload_n 1, 1), (18, .aaload, 1), (19, .goto 7, 3), (22, .aload_n 0, 1), (23, .getfield 18, 3), (26, .areturn, 1)]
theorem okX9_at : ∀ q ∈ iX9_at, decode cX9_at q.1 = .ok q.2 := by decide +kernel
def iX9_spare : List (Nat × Instr × Nat) := [(0, .aload_n 0, 1), (1, .aload_n 0, 1), (2, .getfield 31, 3), (5, .invokevirtual 38, 3), (8, .areturn, 1)]
theorem okX9_spare : ∀ q ∈ iX9_spare, decode cX9_spare q.1 = .ok q.2 := by decide +kernel
def iX9_keepSpare : List (Nat × Instr × Nat) := [(0, .aload_n 0, 1), (1, .dup, 1), (2, .getfield 31, 3), (5, .iconst 1, 1), (6, .iadd, 1), (7, .putfield 31, 3), (10, .aload_n 0, 1), (11, .getfield 31, 3), (14, .iconst 1, 1), (15, .isub, 1), (16, .ireturn, 1)]
theorem okX9_keepSpare : ∀ q ∈ iX9_keepSpare, decode cX9_keepSpare q.1 = .ok q.2 := by decide +kernel
def iX9_dropLast : List (Nat × Instr × Nat) := [(0, .aload_n 0, 1), (1, .dup, 1), (2, .getfield 31, 3), (5, .iconst 1, 1), (6, .isub, 1), (7, .putfield 31, 3), (10, .return_, 1)]
theorem okX9_dropLast : ∀ q ∈ iX9_dropLast, decode cX9_dropLast q.1 = .ok q.2 := by decide +kernel
def iX9_load : List (Nat × Instr × Nat) := [(0, .aload_n 0, 1), (1, .getfield 27, 3), (4, .iload_n 1, 1), (5, .iload_n 2, 1), (6, .invokevirtual 42, 3), (9, .return_, 1)]
theorem okX9_load : ∀ q ∈ iX9_load, decode cX9_load q.1 = .ok q.2 := by decide +kernel
def iX9_lastFigure : List (Nat × Instr × Nat) := [(0, .aload_n 0, 1), (1, .getfield 31, 3), (4, .ifCond .le 19, 3), (7, .aload_n 0, 1), (8, .aload_n 0, 1), (9, .getfield 31, 3), (12, .iconst 1, 1), (13, .isub, 1), (14, .invokevirtual 38, 3), (17, .getfield 46, 3), (20, .goto 4, 3), (23, .iconst (-1), 1), (24, .ireturn, 1)]
theorem okX9_lastFigure : ∀ q ∈ iX9_lastFigure, decode cX9_lastFigure q.1 = .ok q.2 := by decide +kernel
def iX9_place : List (Nat × Instr × Nat) := [(0, .iload_n 1, 1), (1, .istore_n 3, 1), (2, .iconst 0, 1), (3, .istore 4, 2), (5, .iload 4, 2), (7, .iload_n 2, 1), (8, .if_icmp .gt 32, 3), (11, .iload 4, 2), (13, .aload_n 0, 1), (14, .getfield 31, 3), (17, .if_icmp .ge 23, 3), (20, .aload_n 0, 1), (21, .iload 4, 2), (23, .invokevirtual 38, 3), (26, .getfield 49, 3), (29, .iload_n 3, 1), (30, .invokevirtual 53, 3), (33, .istore_n 3, 1), (34, .iinc 4 1, 3), (37, .goto (-32), 3), (40, .iload_n 3, 1), (41, .ireturn, 1)]
theorem okX9_place : ∀ q ∈ iX9_place, decode cX9_place q.1 = .ok q.2 := by decide +kernel
def iX9_pad : List (Nat × Instr × Nat) := [(0, .aload_n 0, 1), (1, .aload_n 0, 1), (2, .getfield 31, 3), (5, .iconst 1, 1), (6, .isub, 1), (7, .invokevirtual 38, 3), (10, .getfield 59, 3), (13, .aload_n 0, 1), (14, .iload_n 1, 1), (15, .aload_n 0, 1), (16, .getfield 31, 3), (19, .iconst 1, 1), (20, .isub, 1), (21, .invokevirtual 62, 3), (24, .invokevirtual 53, 3), (27, .ireturn, 1)]
theorem okX9_pad : ∀ q ∈ iX9_pad, decode cX9_pad q.1 = .ok q.2 := by decide +kernel
def iX9_ticks : List (Nat × Instr × Nat) := [(0, .iconst 0, 1), (1, .istore_n 1, 1), (2, .iconst 0, 1), (3, .istore_n 2, 1), (4, .iload_n 2, 1), (5, .aload_n 0, 1), (6, .getfield 31, 3), (9, .if_icmp .ge 20, 3), (12, .iload_n 1, 1), (13, .aload_n 0, 1), (14, .iload_n 2, 1), (15, .invokevirtual 38, 3), (18, .invokevirtual 66, 3), (21, .iadd, 1), (22, .istore_n 1, 1), (23, .iinc 2 1, 3), (26, .goto (-22), 3), (29, .aload_n 0, 1), (30, .getfield 31, 3), (33, .ifCond .le 24, 3), (36, .iload_n 1, 1), (37, .aload_n 0, 1), (38, .aload_n 0, 1), (39, .getfield 31, 3), (42, .iconst 1, 1), (43, .isub, 1), (44, .invokevirtual 38, 3), (47, .getfield 59, 3), (50, .invokevirtual 70, 3), (53, .iadd, 1), (54, .goto 4, 3), (57, .iconst 0, 1), (58, .ireturn, 1)]
theorem okX9_ticks : ∀ q ∈ iX9_ticks, decode cX9_ticks q.1 = .ok q.2 := by decide +kernel
def iX9_chargeLeft : List (Nat × Instr × Nat) := [(0, .aload_n 0, 1), (1, .getfield 27, 3), (4, .iload_n 1, 1), (5, .invokevirtual 71, 3), (8, .istore_n 2, 1), (9, .iload_n 1, 1), (10, .istore_n 3, 1), (11, .iconst 0, 1), (12, .istore 4, 2), (14, .iload 4, 2), (16, .aload_n 0, 1), (17, .getfield 31, 3), (20, .if_icmp .ge 51, 3), (23, .iload_n 2, 1), (24, .aload_n 0, 1), (25, .iload 4, 2), (27, .invokevirtual 38, 3), (30, .getfield 49, 3), (33, .iload_n 3, 1), (34, .invokevirtual 73, 3), (37, .iconst 2, 1), (38, .aload_n 0, 1), (39, .iload 4, 2), (41, .invokevirtual 38, 3), (44, .getfield 76, 3), (47, .imul, 1), (48, .iadd, 1), (49, .isub, 1), (50, .istore_n 2, 1), (51, .aload_n 0, 1), (52, .iload 4, 2), (54, .invokevirtual 38, 3), (57, .getfield 49, 3), (60, .iload_n 3, 1), (61, .invokevirtual 53, 3), (64, .istore_n 3, 1), (65, .iinc 4 1, 3), (68, .goto (-54), 3), (71, .aload_n 0, 1), (72, .getfield 31, 3), (75, .ifCond .le 25, 3), (78, .iload_n 2, 1), (79, .aload_n 0, 1), (80, .aload_n 0, 1), (81, .getfield 31, 3), (84, .iconst 1, 1), (85, .isub, 1), (86, .invokevirtual 38, 3), (89, .getfield 59, 3), (92, .iload_n 3, 1), (93, .invokevirtual 73, 3), (96, .isub, 1), (97, .goto 4, 3), (100, .iload_n 2, 1), (101, .ireturn, 1)]
theorem okX9_chargeLeft : ∀ q ∈ iX9_chargeLeft, decode cX9_chargeLeft q.1 = .ok q.2 := by decide +kernel
def iX9_light : List (Nat × Instr × Nat) := [(0, .iload_n 1, 1), (1, .istore_n 2, 1), (2, .iconst 0, 1), (3, .istore_n 3, 1), (4, .iconst 0, 1), (5, .istore 4, 2), (7, .iload 4, 2), (9, .aload_n 0, 1), (10, .getfield 31, 3), (13, .if_icmp .ge 77, 3), (16, .aload_n 0, 1), (17, .iload 4, 2), (19, .invokevirtual 38, 3), (22, .astore 5, 2), (24, .iload_n 2, 1), (25, .aload 5, 2), (27, .getfield 49, 3), (30, .invokevirtual 70, 3), (33, .if_icmp .gt 22, 3), (36, .iload_n 3, 1), (37, .aload 5, 2), (39, .getfield 79, 3), (42, .iload_n 2, 1), (43, .aload 5, 2), (45, .getfield 49, 3), (48, .invokevirtual 70, 3), (51, .invokestatic 82, 3), (54, .ireturn, 1), (55, .iload_n 2, 1), (56, .aload 5, 2), (58, .invokevirtual 66, 3), (61, .if_icmp .gt 9, 3), (64, .aload 5, 2), (66, .getfield 79, 3), (69, .ireturn, 1), (70, .iload_n 2, 1), (71, .aload 5, 2), (73, .invokevirtual 66, 3), (76, .isub, 1), (77, .istore_n 2, 1), (78, .aload 5, 2), (80, .getfield 79, 3), (83, .istore_n 3, 1), (84, .iinc 4 1, 3), (87, .goto (-80), 3), (90, .iload_n 3, 1), (91, .iconst 0, 1), (92, .iload_n 2, 1), (93, .aload_n 0, 1), (94, .aload_n 0, 1), (95, .getfield 31, 3), (98, .iconst 1, 1), (99, .isub, 1), (100, .invokevirtual 38, 3), (103, .getfield 59, 3), (106, .invokevirtual 70, 3), (109, .invokestatic 82, 3), (112, .ireturn, 1)]
theorem okX9_light : ∀ q ∈ iX9_light, decode cX9_light q.1 = .ok q.2 := by decide +kernel
def iX9_fade : List (Nat × Instr × Nat) := [(0, .iload_n 3, 1), (1, .ifCond .le 15, 3), (4, .iload_n 0, 1), (5, .iload_n 1, 1), (6, .iload_n 0, 1), (7, .isub, 1), (8, .iload_n 2, 1), (9, .imul, 1), (10, .iload_n 3, 1), (11, .idiv, 1), (12, .iadd, 1), (13, .goto 4, 3), (16, .iload_n 1, 1), (17, .ireturn, 1)]
theorem okX9_fade : ∀ q ∈ iX9_fade, decode cX9_fade q.1 = .ok q.2 := by decide +kernel
def iX10_init : List (Nat × Instr × Nat) := [(0, .aload_n 0, 1), (1, .invokespecial 3, 3), (4, .aload_n 0, 1), (5, .new 9, 3), (8, .dup, 1), (9, .sipush 300, 3), (12, .invokespecial 11, 3), (15, .putfield 14, 3), (18, .aload_n 0, 1), (19, .iconst 0, 1), (20, .putfield 20, 3), (23, .aload_n 0, 1), (24, .iconst 0, 1), (25, .putfield 24, 3), (28, .aload_n 0, 1), (29, .iconst 0, 1), (30, .putfield 27, 3), (33, .return_, 1)]
theorem okX10_init : ∀ q ∈ iX10_init, decode cX10_init q.1 = .ok q.2 := by decide +kernel
def iX10_size : List (Nat × Instr × Nat) := [(0, .aload_n 0, 1), (1, .getfield 20, 3), (4, .ireturn, 1)]
theorem okX10_size : ∀ q ∈ iX10_size, decode cX10_size q.1 = .ok q.2 := by decide +kernel
def iX10_empty : List (Nat × Instr × Nat) := [(0, .aload_n 0, 1), (1, .iconst 0, 1), (2, .putfield 20, 3), (5, .return_, 1)]
theorem okX10_empty : ∀ q ∈ iX10_empty, decode cX10_empty q.1 = .ok q.2 := by decide +kernel
def iX10_add : List (Nat × Instr × Nat) := [(0, .iload_n 3, 1), (1, .iconst 1, 1), (2, .isub, 1), (3, .istore 4, 2), (5, .iload 4, 2), (7, .ifCond .lt 42, 3), (10, .aload_n 0, 1), (11, .getfield 14, 3), (14, .aload_n 0, 1), (15, .getfield 20, 3), (18, .lload_n 1, 1), (19, .bipush 8, 2), (21, .iload 4, 2), (23, .imul, 1), (24, .lushr, 1), (25, .ldc2_w 31, 3), (28, .land, 1), (29, .l2i, 1), (30, .invokevirtual 33, 3), (33, .aload_n 0, 1), (34, .dup, 1), (35, .getfield 20, 3), (38, .iconst 1, 1), (39, .iadd, 1), (40, .putfield 20, 3), (43, .iinc 4 (-1), 3), (46, .goto (-41), 3), (49, .return_, 1)]
theorem okX10_add : ∀ q ∈ iX10_add, decode cX10_add q.1 = .ok q.2 := by decide +kernel
def iX10_read : List (Nat × Instr × Nat) := [(0, .aload_n 0, 1), (1, .iconst 0, 1), (2, .putfield 24, 3), (5, .aload_n 0, 1), (6, .iconst 0, 1), (7, .putfield 27, 3), (10, .aload_n 1, 1), (11, .invokevirtual 37, 3), (14, .iconst 0, 1), (15, .istore_n 2, 1), (16, .iload_n 2, 1), (17, .bipush 10, 2), (19, .if_icmp .ge 63, 3), (22, .aload_n 0, 1), (23, .aload_n 1, 1), (24, .invokevirtual 42, 3), (27, .aload_n 0, 1), (28, .getfield 27, 3), (31, .ifCond .eq 8, 3), (34, .aload_n 0, 1), (35, .getfield 24, 3), (38, .ireturn, 1), (39, .aload_n 0, 1), (40, .getfield 24, 3), (43, .aload_n 0, 1), (44, .getfield 20, 3), (47, .if_icmp .lt 5, 3), (50, .iconst (-1), 1), (51, .ireturn, 1), (52, .aload_n 0, 1), (53, .invokevirtual 46, 3), (56, .bipush 59, 2), (58, .if_icmp .eq 8, 3), (61, .aload_n 0, 1), (62, .getfield 24, 3), (65, .ireturn, 1), (66, .aload_n 0, 1), (67, .dup, 1), (68, .getfield 24, 3), (71, .iconst 1, 1), (72, .iadd, 1), (73, .putfield 24, 3), (76, .iinc 2 1, 3), (79, .goto (-63), 3), (82, .aload_n 0, 1), (83, .getfield 24, 3), (86, .iconst 1, 1), (87, .isub, 1), (88, .ireturn, 1)]
theorem okX10_read : ∀ q ∈ iX10_read, decode cX10_read q.1 = .ok q.2 := by decide +kernel
def iX10_readPoint : List (Nat × Instr × Nat) := [(0, .aload_n 0, 1), (1, .iconst 1, 1), (2, .bipush 44, 2), (4, .invokevirtual 50, 3), (7, .istore_n 2, 1), (8, .aload_n 0, 1), (9, .iconst 1, 1), (10, .bipush 44, 2), (12, .invokevirtual 50, 3), (15, .istore_n 3, 1), (16, .aload_n 0, 1), (17, .iconst 0, 1), (18, .bipush 58, 2), (20, .invokevirtual 50, 3), (23, .istore 4, 2), (25, .aload_n 0, 1), (26, .invokevirtual 54, 3), (29, .istore 5, 2), (31, .aload_n 0, 1), (32, .getfield 27, 3), (35, .ifCond .ne 13, 3), (38, .aload_n 1, 1), (39, .iload_n 2, 1), (40, .iload_n 3, 1), (41, .iload 4, 2), (43, .iload 5, 2), (45, .invokevirtual 57, 3), (48, .return_, 1)]
theorem okX10_readPoint : ∀ q ∈ iX10_readPoint, decode cX10_readPoint q.1 = .ok q.2 := by decide +kernel
def iX10_readNumber : List (Nat × Instr × Nat) := [(0, .aload_n 0, 1), (1, .getfield 27, 3), (4, .ifCond .ne 20, 3), (7, .iload_n 1, 1), (8, .ifCond .eq 16, 3), (11, .aload_n 0, 1), (12, .invokevirtual 46, 3), (15, .bipush 45, 2), (17, .if_icmp .ne 7, 3), (20, .iconst 1, 1), (21, .goto 4, 3), (24, .iconst 0, 1), (25, .istore_n 3, 1), (26, .iload_n 3, 1), (27, .ifCond .eq 13, 3), (30, .aload_n 0, 1), (31, .dup, 1), (32, .getfield 24, 3), (35, .iconst 1, 1), (36, .iadd, 1), (37, .putfield 24, 3), (40, .aload_n 0, 1), (41, .iload_n 3, 1), (42, .invokevirtual 61, 3), (45, .istore 4, 2), (47, .aload_n 0, 1), (48, .getfield 27, 3), (51, .ifCond .ne 24, 3), (54, .aload_n 0, 1), (55, .invokevirtual 46, 3), (58, .iload_n 2, 1), (59, .if_icmp .ne 16, 3), (62, .aload_n 0, 1), (63, .dup, 1), (64, .getfield 24, 3), (67, .iconst 1, 1), (68, .iadd, 1), (69, .putfield 24, 3), (72, .goto 8, 3), (75, .aload_n 0, 1), (76, .iconst 1, 1), (77, .putfield 27, 3), (80, .iload_n 3, 1), (81, .ifCond .eq 9, 3), (84, .iload 4, 2), (86, .ineg, 1), (87, .goto 5, 3), (90, .iload 4, 2), (92, .ireturn, 1)]
theorem okX10_readNumber : ∀ q ∈ iX10_readNumber, decode cX10_readNumber q.1 = .ok q.2 := by decide +kernel
def iX10_readDigits : List (Nat × Instr × Nat) := [(0, .iconst 0, 1), (1, .istore_n 2, 1), (2, .iconst 0, 1), (3, .istore_n 3, 1), (4, .iload_n 3, 1), (5, .iconst 3, 1), (6, .if_icmp .ge 131, 3), (9, .aload_n 0, 1), (10, .invokevirtual 46, 3), (13, .invokestatic 65, 3), (16, .istore 4, 2), (18, .aload_n 0, 1), (19, .getfield 27, 3), (22, .ifCond .ne 9, 3), (25, .iload 4, 2), (27, .iconst (-1), 1), (28, .if_icmp .ne 25, 3), (31, .aload_n 0, 1), (32, .aload_n 0, 1), (33, .getfield 27, 3), (36, .ifCond .ne 7, 3), (39, .iload_n 3, 1), (40, .ifCond .ne 7, 3), (43, .iconst 1, 1), (44, .goto 4, 3), (47, .iconst 0, 1), (48, .putfield 27, 3), (51, .iload_n 2, 1), (52, .ireturn, 1), (53, .iload_n 2, 1), (54, .bipush 10, 2), (56, .imul, 1), (57, .iload 4, 2), (59, .iadd, 1), (60, .istore 5, 2), (62, .iload_n 3, 1), (63, .ifCond .le 11, 3), (66, .iload_n 2, 1), (67, .ifCond .ne 7, 3), (70, .iconst 1, 1), (71, .goto 4, 3), (74, .iconst 0, 1), (75, .istore 6, 2), (77, .iload_n 1, 1), (78, .ifCond .eq 12, 3), (81, .iload 5, 2), (83, .ifCond .ne 7, 3), (86, .iconst 1, 1), (87, .goto 4, 3), (90, .iconst 0, 1), (91, .istore 7, 2), (93, .iload 6, 2), (95, .ifCond .ne 16, 3), (98, .iload 7, 2), (100, .ifCond .ne 11, 3), (103, .iload 5, 2), (105, .sipush 200, 3), (108, .if_icmp .le 10, 3), (111, .aload_n 0, 1), (112, .iconst 1, 1), (113, .putfield 27, 3), (116, .iload_n 2, 1), (117, .ireturn, 1), (118, .iload 5, 2), (120, .istore_n 2, 1), (121, .aload_n 0, 1), (122, .dup, 1), (123, .getfield 24, 3), (126, .iconst 1, 1), (127, .iadd, 1), (128, .putfield 24, 3), (131, .iinc 3 1, 3), (134, .goto (-130), 3), (137, .iload_n 2, 1), (138, .ireturn, 1)]
theorem okX10_readDigits : ∀ q ∈ iX10_readDigits, decode cX10_readDigits q.1 = .ok q.2 := by decide +kernel
def iX10_readWorth : List (Nat × Instr × Nat) := [(0, .aload_n 0, 1), (1, .invokevirtual 46, 3), (4, .invokestatic 65, 3), (7, .istore_n 1, 1), (8, .aload_n 0, 1), (9, .getfield 27, 3), (12, .ifCond .ne 8, 3), (15, .iload_n 1, 1), (16, .iconst (-1), 1), (17, .if_icmp .ne 11, 3), (20, .aload_n 0, 1), (21, .iconst 1, 1), (22, .putfield 27, 3), (25, .goto 13, 3), (28, .aload_n 0, 1), (29, .dup, 1), (30, .getfield 24, 3), (33, .iconst 1, 1), (34, .iadd, 1), (35, .putfield 24, 3), (38, .iload_n 1, 1), (39, .ireturn, 1)]
theorem okX10_readWorth : ∀ q ∈ iX10_readWorth, decode cX10_readWorth q.1 = .ok q.2 := by decide +kernel
def iX10_byteHere : List (Nat × Instr × Nat) := [(0, .aload_n 0, 1), (1, .getfield 24, 3), (4, .aload_n 0, 1), (5, .getfield 20, 3), (8, .if_icmp .ge 17, 3), (11, .aload_n 0, 1), (12, .getfield 14, 3), (15, .aload_n 0, 1), (16, .getfield 24, 3), (19, .invokevirtual 69, 3), (22, .goto 4, 3), (25, .iconst (-1), 1), (26, .ireturn, 1)]
theorem okX10_byteHere : ∀ q ∈ iX10_byteHere, decode cX10_byteHere q.1 = .ok q.2 := by decide +kernel
def iX10_digitOf : List (Nat × Instr × Nat) := [(0, .iload_n 0, 1), (1, .bipush 48, 2), (3, .if_icmp .lt 16, 3), (6, .iload_n 0, 1), (7, .bipush 57, 2), (9, .if_icmp .gt 10, 3), (12, .iload_n 0, 1), (13, .bipush 48, 2), (15, .isub, 1), (16, .goto 4, 3), (19, .iconst (-1), 1), (20, .ireturn, 1)]
theorem okX10_digitOf : ∀ q ∈ iX10_digitOf, decode cX10_digitOf q.1 = .ok q.2 := by decide +kernel
def iX11_init : List (Nat × Instr × Nat) := [(0, .aload_n 0, 1), (1, .invokespecial 1, 3), (4, .aload_n 0, 1), (5, .new 7, 3), (8, .dup, 1), (9, .invokespecial 9, 3), (12, .putfield 10, 3), (15, .aload_n 0, 1), (16, .new 16, 3), (19, .dup, 1), (20, .invokespecial 18, 3), (23, .putfield 19, 3), (26, .aload_n 0, 1), (27, .new 23, 3), (30, .dup, 1), (31, .invokespecial 25, 3), (34, .putfield 26, 3), (37, .aload_n 0, 1), (38, .new 30, 3), (41, .dup, 1), (42, .invokespecial 32, 3), (45, .putfield 33, 3), (48, .aload_n 0, 1), (49, .new 37, 3), (52, .dup, 1), (53, .invokespecial 39, 3), (56, .putfield 40, 3), (59, .aload_n 0, 1), (60, .new 44, 3), (63, .dup, 1), (64, .invokespecial 46, 3), (67, .putfield 47, 3), (70, .aload_n 0, 1), (71, .new 51, 3), (74, .dup, 1), (75, .invokespecial 53, 3), (78, .putfield 54, 3), (81, .aload_n 0, 1), (82, .new 58, 3), (85, .dup, 1), (86, .invokespecial 60, 3), (89, .putfield 61, 3), (92, .return_, 1)]
theorem okX11_init : ∀ q ∈ iX11_init, decode cX11_init q.1 = .ok q.2 := by decide +kernel
def iX11_flyer : List (Nat × Instr × Nat) := [(0, .iload_n 1, 1), (1, .invokestatic 65, 3), (4, .ifCond .eq 20, 3), (7, .iload_n 2, 1), (8, .invokestatic 65, 3), (11, .ifCond .eq 13, 3), (14, .iload_n 3, 1), (15, .iconst 0, 1), (16, .ldc 69, 2), (18, .invokestatic 70, 3), (21, .ifCond .ne 6, 3), (24, .bipush (-2), 2), (26, .ireturn, 1), (27, .aload_n 0, 1), (28, .getfield 54, 3), (31, .invokevirtual 74, 3), (34, .ifCond .le 6, 3), (37, .bipush (-3), 2), (39, .ireturn, 1), (40, .aload_n 0, 1), (41, .invokevirtual 78, 3), (44, .istore 4, 2), (46, .iload 4, 2), (48, .bipush 10, 2), (50, .if_icmp .lt 6, 3), (53, .bipush (-4), 2), (55, .ireturn, 1), (56, .aload_n 0, 1), (57, .getfield 19, 3), (60, .iconst (-1), 1), (61, .invokevirtual 81, 3), (64, .iload_n 1, 1), (65, .iload_n 2, 1), (66, .iconst 0, 1), (67, .iconst 0, 1), (68, .invokevirtual 85, 3), (71, .aload_n 0, 1), (72, .getfield 54, 3), (75, .iload 4, 2), (77, .iload_n 3, 1), (78, .invokevirtual 91, 3), (81, .iload 4, 2), (83, .ireturn, 1)]
theorem okX11_flyer : ∀ q ∈ iX11_flyer, decode cX11_flyer q.1 = .ok q.2 := by decide +kernel
def iX11_feed : List (Nat × Instr × Nat) := [(0, .iload_n 3, 1), (1, .iconst 1, 1), (2, .bipush 8, 2), (4, .invokestatic 70, 3), (7, .ifCond .ne 6, 3), (10, .bipush (-2), 2), (12, .ireturn, 1), (13, .aload_n 0, 1), (14, .getfield 10, 3), (17, .invokevirtual 95, 3), (20, .iload_n 3, 1), (21, .iadd, 1), (22, .sipush 300, 3), (25, .if_icmp .le 6, 3), (28, .bipush (-4), 2), (30, .ireturn, 1), (31, .aload_n 0, 1), (32, .getfield 10, 3), (35, .lload_n 1, 1), (36, .iload_n 3, 1), (37, .invokevirtual 96, 3), (40, .aload_n 0, 1), (41, .getfield 10, 3), (44, .invokevirtual 95, 3), (47, .ireturn, 1)]
theorem okX11_feed : ∀ q ∈ iX11_feed, decode cX11_feed q.1 = .ok q.2 := by decide +kernel
def iX11_figure : List (Nat × Instr × Nat) := [(0, .aload_n 0, 1), (1, .getfield 19, 3), (4, .invokevirtual 99, 3), (7, .bipush 8, 2), (9, .if_icmp .lt 6, 3), (12, .bipush (-4), 2), (14, .ireturn, 1), (15, .aload_n 0, 1), (16, .getfield 10, 3), (19, .aload_n 0, 1), (20, .getfield 19, 3), (23, .invokevirtual 100, 3), (26, .invokevirtual 104, 3), (29, .istore_n 1, 1), (30, .aload_n 0, 1), (31, .getfield 10, 3), (34, .invokevirtual 108, 3), (37, .iload_n 1, 1), (38, .iconst (-1), 1), (39, .if_icmp .ne 13, 3), (42, .aload_n 0, 1), (43, .getfield 19, 3), (46, .invokevirtual 111, 3), (49, .goto 7, 3), (52, .bipush (-10), 2), (54, .iload_n 1, 1), (55, .isub, 1), (56, .ireturn, 1)]
theorem okX11_figure : ∀ q ∈ iX11_figure, decode cX11_figure q.1 = .ok q.2 := by decide +kernel
def iX11_point : List (Nat × Instr × Nat) := [(0, .aload_n 0, 1), (1, .getfield 19, 3), (4, .iload_n 1, 1), (5, .invokevirtual 114, 3), (8, .ifCond .ne 7, 3), (11, .sipush (-1000), 3), (14, .ireturn, 1), (15, .aload_n 0, 1), (16, .getfield 19, 3), (19, .iload_n 1, 1), (20, .invokevirtual 81, 3), (23, .astore 4, 2), (25, .iload_n 2, 1), (26, .iconst (-1), 1), (27, .if_icmp .ne 13, 3), (30, .iload_n 3, 1), (31, .ifCond .ne 9, 3), (34, .aload 4, 2), (36, .invokevirtual 117, 3), (39, .ireturn, 1), (40, .iload_n 2, 1), (41, .iconst (-1), 1), (42, .if_icmp .ne 21, 3), (45, .iload_n 3, 1), (46, .iconst 1, 1), (47, .if_icmp .ne 16, 3), (50, .aload_n 0, 1), (51, .getfield 26, 3), (54, .aload 4, 2), (56, .invokevirtual 118, 3), (59, .invokestatic 122, 3), (62, .ireturn, 1), (63, .aload 4, 2), (65, .iload_n 2, 1), (66, .invokevirtual 126, 3), (69, .ifCond .eq 22, 3), (72, .iload_n 3, 1), (73, .iconst 0, 1), (74, .iconst 3, 1), (75, .invokestatic 70, 3), (78, .ifCond .eq 13, 3), (81, .aload 4, 2), (83, .iload_n 2, 1), (84, .iload_n 3, 1), (85, .invokevirtual 127, 3), (88, .goto 6, 3), (91, .sipush (-1000), 3), (94, .ireturn, 1)]
theorem okX11_point : ∀ q ∈ iX11_point, decode cX11_point q.1 = .ok q.2 := by decide +kernel
def iX11_spread : List (Nat × Instr × Nat) := [(0, .aload_n 0, 1), (1, .getfield 19, 3), (4, .iload_n 1, 1), (5, .invokevirtual 114, 3), (8, .ifCond .eq 18, 3), (11, .aload_n 0, 1), (12, .getfield 19, 3), (15, .iload_n 1, 1), (16, .invokevirtual 81, 3), (19, .invokevirtual 117, 3), (22, .iconst 2, 1), (23, .if_icmp .ge 5, 3), (26, .iconst (-1), 1), (27, .ireturn, 1), (28, .aload_n 0, 1), (29, .getfield 19, 3), (32, .iload_n 1, 1), (33, .invokevirtual 81, 3), (36, .invokevirtual 131, 3), (39, .ireturn, 1)]
theorem okX11_spread : ∀ q ∈ iX11_spread, decode cX11_spread q.1 = .ok q.2 := by decide +kernel
def iX11_gap : List (Nat × Instr × Nat) := [(0, .iload_n 1, 1), (1, .iconst 0, 1), (2, .bipush 100, 2), (4, .invokestatic 70, 3), (7, .ifCond .ne 6, 3), (10, .bipush (-2), 2), (12, .ireturn, 1), (13, .aload_n 0, 1), (14, .getfield 26, 3), (17, .getfield 134, 3), (20, .istore_n 2, 1), (21, .aload_n 0, 1), (22, .getfield 26, 3), (25, .iload_n 1, 1), (26, .putfield 134, 3), (29, .iload_n 2, 1), (30, .ireturn, 1)]
theorem okX11_gap : ∀ q ∈ iX11_gap, decode cX11_gap q.1 = .ok q.2 := by decide +kernel
def iX11_zone : List (Nat × Instr × Nat) := [(0, .iload_n 1, 1), (1, .invokestatic 65, 3), (4, .ifCond .eq 21, 3), (7, .iload_n 2, 1), (8, .invokestatic 65, 3), (11, .ifCond .eq 14, 3), (14, .iload_n 3, 1), (15, .iconst 0, 1), (16, .sipush 200, 3), (19, .invokestatic 70, 3), (22, .ifCond .ne 6, 3), (25, .bipush (-2), 2), (27, .ireturn, 1), (28, .aload_n 0, 1), (29, .getfield 26, 3), (32, .iload_n 1, 1), (33, .putfield 138, 3), (36, .aload_n 0, 1), (37, .getfield 26, 3), (40, .iload_n 2, 1), (41, .putfield 141, 3), (44, .aload_n 0, 1), (45, .getfield 26, 3), (48, .iload_n 3, 1), (49, .putfield 144, 3), (52, .iconst 0, 1), (53, .ireturn, 1)]
theorem okX11_zone : ∀ q ∈ iX11_zone, decode cX11_zone q.1 = .ok q.2 := by decide +kernel
def iX11_pass : List (Nat × Instr × Nat) := [(0, .aload_n 0, 1), (1, .iload_n 1, 1), (2, .invokevirtual 147, 3), (5, .ifCond .eq 11, 3), (8, .aload_n 0, 1), (9, .iload_n 2, 1), (10, .invokevirtual 147, 3), (13, .ifCond .ne 5, 3), (16, .iconst (-1), 1), (17, .ireturn, 1), (18, .iload_n 3, 1), (19, .iconst 1, 1), (20, .bipush 30, 2), (22, .invokestatic 70, 3), (25, .ifCond .ne 6, 3), (28, .bipush (-2), 2), (30, .ireturn, 1), (31, .aload_n 0, 1), (32, .getfield 19, 3), (35, .iload_n 1, 1), (36, .invokevirtual 81, 3), (39, .invokevirtual 117, 3), (42, .istore 4, 2), (44, .iload 4, 2), (46, .ifCond .eq 19, 3), (49, .iload 4, 2), (51, .aload_n 0, 1), (52, .getfield 19, 3), (55, .iload_n 2, 1), (56, .invokevirtual 81, 3), (59, .invokevirtual 117, 3), (62, .if_icmp .eq 6, 3), (65, .bipush (-3), 2), (67, .ireturn, 1), (68, .aload_n 0, 1), (69, .getfield 40, 3), (72, .aload_n 0, 1), (73, .getfield 19, 3), (76, .iload_n 1, 1), (77, .invokevirtual 81, 3), (80, .aload_n 0, 1), (81, .getfield 19, 3), (84, .iload_n 2, 1), (85, .invokevirtual 81, 3), (88, .iload_n 3, 1), (89, .aload_n 0, 1), (90, .getfield 33, 3), (93, .invokevirtual 150, 3), (96, .ireturn, 1)]
theorem okX11_pass : ∀ q ∈ iX11_pass, decode cX11_pass q.1 = .ok q.2 := by decide +kernel
def iX11_goes : List (Nat × Instr × Nat) := [(0, .aload_n 0, 1), (1, .getfield 40, 3), (4, .iload_n 1, 1), (5, .invokevirtual 154, 3), (8, .ifCond .eq 14, 3), (11, .aload_n 0, 1), (12, .getfield 40, 3), (15, .iload_n 1, 1), (16, .invokevirtual 155, 3), (19, .goto 4, 3), (22, .iconst (-1), 1), (23, .ireturn, 1)]
theorem okX11_goes : ∀ q ∈ iX11_goes, decode cX11_goes q.1 = .ok q.2 := by decide +kernel
def iX11_delay : List (Nat × Instr × Nat) := [(0, .aload_n 0, 1), (1, .getfield 40, 3), (4, .iload_n 1, 1), (5, .invokevirtual 154, 3), (8, .ifCond .ne 5, 3), (11, .iconst (-1), 1), (12, .ireturn, 1), (13, .iload_n 2, 1), (14, .iconst 0, 1), (15, .bipush 9, 2), (17, .invokestatic 70, 3), (20, .ifCond .ne 6, 3), (23, .bipush (-2), 2), (25, .ireturn, 1), (26, .aload_n 0, 1), (27, .getfield 40, 3), (30, .iload_n 1, 1), (31, .invokevirtual 159, 3), (34, .istore_n 3, 1), (35, .aload_n 0, 1), (36, .getfield 40, 3), (39, .iload_n 1, 1), (40, .iload_n 2, 1), (41, .invokevirtual 162, 3), (44, .iload_n 3, 1), (45, .ireturn, 1)]
theorem okX11_delay : ∀ q ∈ iX11_delay, decode cX11_delay q.1 = .ok q.2 := by decide +kernel
def iX11_clash : List (Nat × Instr × Nat) := [(0, .aload_n 0, 1), (1, .getfield 40, 3), (4, .iload_n 1, 1), (5, .invokevirtual 154, 3), (8, .ifCond .eq 14, 3), (11, .aload_n 0, 1), (12, .getfield 40, 3), (15, .iload_n 2, 1), (16, .invokevirtual 154, 3), (19, .ifCond .ne 5, 3), (22, .iconst (-1), 1), (23, .ireturn, 1), (24, .iload_n 1, 1), (25, .iload_n 2, 1), (26, .if_icmp .ne 6, 3), (29, .bipush (-2), 2), (31, .ireturn, 1), (32, .aload_n 0, 1), (33, .getfield 40, 3), (36, .iload_n 1, 1), (37, .iload_n 2, 1), (38, .aload_n 0, 1), (39, .getfield 40, 3), (42, .iload_n 2, 1), (43, .invokevirtual 159, 3), (46, .aload_n 0, 1), (47, .getfield 40, 3), (50, .iload_n 1, 1), (51, .invokevirtual 159, 3), (54, .isub, 1), (55, .aload_n 0, 1), (56, .getfield 26, 3), (59, .getfield 134, 3), (62, .invokevirtual 165, 3), (65, .invokestatic 122, 3), (68, .ireturn, 1)]
theorem okX11_clash : ∀ q ∈ iX11_clash, decode cX11_clash q.1 = .ok q.2 := by decide +kernel
def iX11_enters : List (Nat × Instr × Nat) := [(0, .aload_n 0, 1), (1, .getfield 40, 3), (4, .iload_n 1, 1), (5, .invokevirtual 154, 3), (8, .ifCond .eq 21, 3), (11, .aload_n 0, 1), (12, .getfield 40, 3), (15, .iload_n 1, 1), (16, .aload_n 0, 1), (17, .getfield 26, 3), (20, .invokevirtual 169, 3), (23, .invokestatic 122, 3), (26, .goto 4, 3), (29, .iconst (-1), 1), (30, .ireturn, 1)]
theorem okX11_enters : ∀ q ∈ iX11_enters, decode cX11_enters q.1 = .ok q.2 := by decide +kernel
def iX11_clean : List (Nat × Instr × Nat) := [(0, .aload_n 0, 1), (1, .getfield 40, 3), (4, .invokevirtual 173, 3), (7, .ifCond .le 20, 3), (10, .aload_n 0, 1), (11, .getfield 40, 3), (14, .aload_n 0, 1), (15, .getfield 26, 3), (18, .invokevirtual 174, 3), (21, .invokestatic 122, 3), (24, .goto 5, 3), (27, .bipush (-3), 2), (29, .ireturn, 1)]
theorem okX11_clean : ∀ q ∈ iX11_clean, decode cX11_clean q.1 = .ok q.2 := by decide +kernel
def iX11_part : List (Nat × Instr × Nat) := [(0, .aload_n 0, 1), (1, .getfield 40, 3), (4, .invokevirtual 173, 3), (7, .ifCond .eq 17, 3), (10, .aload_n 0, 1), (11, .getfield 40, 3), (14, .aload_n 0, 1), (15, .getfield 26, 3), (18, .invokevirtual 178, 3), (21, .ifCond .eq 6, 3), (24, .bipush (-3), 2), (26, .ireturn, 1), (27, .aload_n 0, 1), (28, .getfield 47, 3), (31, .aload_n 0, 1), (32, .getfield 40, 3), (35, .aload_n 0, 1), (36, .getfield 26, 3), (39, .getfield 134, 3), (42, .invokevirtual 181, 3), (45, .istore_n 1, 1), (46, .iload_n 1, 1), (47, .iconst (-1), 1), (48, .if_icmp .ne 8, 3), (51, .bipush (-3), 2), (53, .goto 4, 3), (56, .iload_n 1, 1), (57, .ireturn, 1)]
theorem okX11_part : ∀ q ∈ iX11_part, decode cX11_part q.1 = .ok q.2 := by decide +kernel
def iX11_scene : List (Nat × Instr × Nat) := [(0, .aload_n 0, 1), (1, .getfield 19, 3), (4, .iload_n 1, 1), (5, .invokevirtual 114, 3), (8, .ifCond .ne 5, 3), (11, .iconst (-1), 1), (12, .ireturn, 1), (13, .iload_n 2, 1), (14, .iconst 1, 1), (15, .bipush 30, 2), (17, .invokestatic 70, 3), (20, .ifCond .eq 17, 3), (23, .iload_n 3, 1), (24, .iconst 0, 1), (25, .bipush 100, 2), (27, .invokestatic 70, 3), (30, .ifCond .eq 7, 3), (33, .iconst 1, 1), (34, .goto 4, 3), (37, .iconst 0, 1), (38, .istore 5, 2), (40, .iload 5, 2), (42, .ifCond .eq 15, 3), (45, .iload 4, 2), (47, .iconst 0, 1), (48, .sipush 255, 3), (51, .invokestatic 70, 3), (54, .ifCond .ne 6, 3), (57, .bipush (-2), 2), (59, .ireturn, 1), (60, .aload_n 0, 1), (61, .getfield 19, 3), (64, .iload_n 1, 1), (65, .invokevirtual 81, 3), (68, .invokevirtual 117, 3), (71, .aload_n 0, 1), (72, .invokevirtual 78, 3), (75, .if_icmp .eq 6, 3), (78, .bipush (-3), 2), (80, .ireturn, 1), (81, .aload_n 0, 1), (82, .getfield 54, 3), (85, .invokevirtual 74, 3), (88, .bipush 12, 2), (90, .if_icmp .lt 6, 3), (93, .bipush (-4), 2), (95, .ireturn, 1), (96, .aload_n 0, 1), (97, .getfield 54, 3), (100, .invokevirtual 185, 3), (103, .astore 6, 2), (105, .aload 6, 2), (107, .iload_n 3, 1), (108, .putfield 188, 3), (111, .aload 6, 2), (113, .iload 4, 2), (115, .putfield 193, 3), (118, .aload 6, 2), (120, .iload_n 1, 1), (121, .putfield 196, 3), (124, .aload 6, 2), (126, .getfield 199, 3), (129, .aload_n 0, 1), (130, .getfield 19, 3), (133, .aload_n 0, 1), (134, .getfield 54, 3), (137, .invokevirtual 202, 3), (140, .invokevirtual 81, 3), (143, .aload_n 0, 1), (144, .getfield 19, 3), (147, .iload_n 1, 1), (148, .invokevirtual 81, 3), (151, .iload_n 2, 1), (152, .aload_n 0, 1), (153, .getfield 33, 3), (156, .invokevirtual 150, 3), (159, .pop, 1), (160, .aload 6, 2), (162, .getfield 205, 3), (165, .aload_n 0, 1), (166, .getfield 19, 3), (169, .iload_n 1, 1), (170, .invokevirtual 81, 3), (173, .aload_n 0, 1), (174, .getfield 19, 3), (177, .iconst (-1), 1), (178, .invokevirtual 81, 3), (181, .iload_n 2, 1), (182, .aload_n 0, 1), (183, .getfield 33, 3), (186, .invokevirtual 150, 3), (189, .pop, 1), (190, .aload_n 0, 1), (191, .getfield 54, 3), (194, .invokevirtual 208, 3), (197, .ireturn, 1)]
theorem okX11_scene : ∀ q ∈ iX11_scene, decode cX11_scene q.1 = .ok q.2 := by decide +kernel
def iX11_stands : List (Nat × Instr × Nat) := [(0, .aload_n 0, 1), (1, .iload_n 1, 1), (2, .invokevirtual 209, 3), (5, .ifCond .eq 26, 3), (8, .aload_n 0, 1), (9, .getfield 54, 3), (12, .iload_n 2, 1), (13, .invokevirtual 212, 3), (16, .ifCond .eq 15, 3), (19, .aload_n 0, 1), (20, .getfield 54, 3), (23, .iload_n 1, 1), (24, .iload_n 2, 1), (25, .invokevirtual 213, 3), (28, .goto 4, 3), (31, .iconst (-1), 1), (32, .ireturn, 1)]
theorem okX11_stands : ∀ q ∈ iX11_stands, decode cX11_stands q.1 = .ok q.2 := by decide +kernel
def iX11_lands : List (Nat × Instr × Nat) := [(0, .aload_n 0, 1), (1, .iload_n 1, 1), (2, .invokevirtual 209, 3), (5, .ifCond .ne 5, 3), (8, .iconst (-1), 1), (9, .ireturn, 1), (10, .aload_n 0, 1), (11, .getfield 54, 3), (14, .invokevirtual 74, 3), (17, .ifCond .le 14, 3), (20, .aload_n 0, 1), (21, .getfield 54, 3), (24, .iload_n 1, 1), (25, .invokevirtual 216, 3), (28, .goto 5, 3), (31, .bipush (-3), 2), (33, .ireturn, 1)]
theorem okX11_lands : ∀ q ∈ iX11_lands, decode cX11_lands q.1 = .ok q.2 := by decide +kernel
def iX11_length : List (Nat × Instr × Nat) := [(0, .aload_n 0, 1), (1, .getfield 54, 3), (4, .invokevirtual 219, 3), (7, .ireturn, 1)]
theorem okX11_length : ∀ q ∈ iX11_length, decode cX11_length q.1 = .ok q.2 := by decide +kernel
def iX11_left : List (Nat × Instr × Nat) := [(0, .aload_n 0, 1), (1, .iload_n 1, 1), (2, .invokevirtual 209, 3), (5, .ifCond .eq 14, 3), (8, .aload_n 0, 1), (9, .getfield 54, 3), (12, .iload_n 1, 1), (13, .invokevirtual 222, 3), (16, .goto 5, 3), (19, .ldc 225, 2), (21, .ireturn, 1)]
theorem okX11_left : ∀ q ∈ iX11_left, decode cX11_left q.1 = .ok q.2 := by decide +kernel
def iX11_last : List (Nat × Instr × Nat) := [(0, .iconst 0, 1), (1, .istore_n 1, 1), (2, .iconst 0, 1), (3, .istore_n 2, 1), (4, .iload_n 2, 1), (5, .aload_n 0, 1), (6, .invokevirtual 78, 3), (9, .if_icmp .ge 33, 3), (12, .aload_n 0, 1), (13, .getfield 54, 3), (16, .iload_n 2, 1), (17, .invokevirtual 222, 3), (20, .aload_n 0, 1), (21, .getfield 54, 3), (24, .getfield 226, 3), (27, .if_icmp .lt 9, 3), (30, .iload_n 1, 1), (31, .iconst 1, 1), (32, .iload_n 2, 1), (33, .ishl, 1), (34, .ior, 1), (35, .istore_n 1, 1), (36, .iinc 2 1, 3), (39, .goto (-35), 3), (42, .iload_n 1, 1), (43, .ireturn, 1)]
theorem okX11_last : ∀ q ∈ iX11_last, decode cX11_last q.1 = .ok q.2 := by decide +kernel
def iX11_margin : List (Nat × Instr × Nat) := [(0, .iload_n 1, 1), (1, .iconst 0, 1), (2, .sipush 10000, 3), (5, .invokestatic 70, 3), (8, .ifCond .ne 6, 3), (11, .bipush (-2), 2), (13, .ireturn, 1), (14, .aload_n 0, 1), (15, .getfield 54, 3), (18, .getfield 226, 3), (21, .istore_n 2, 1), (22, .aload_n 0, 1), (23, .getfield 54, 3), (26, .iload_n 1, 1), (27, .putfield 226, 3), (30, .iload_n 2, 1), (31, .ireturn, 1)]
theorem okX11_margin : ∀ q ∈ iX11_margin, decode cX11_margin q.1 = .ok q.2 := by decide +kernel
def iX11_colour : List (Nat × Instr × Nat) := [(0, .aload_n 0, 1), (1, .getfield 54, 3), (4, .invokevirtual 74, 3), (7, .ifCond .le 29, 3), (10, .iload_n 1, 1), (11, .iconst 0, 1), (12, .aload_n 0, 1), (13, .getfield 54, 3), (16, .invokevirtual 219, 3), (19, .invokestatic 70, 3), (22, .ifCond .eq 14, 3), (25, .aload_n 0, 1), (26, .getfield 54, 3), (29, .iload_n 1, 1), (30, .invokevirtual 229, 3), (33, .goto 4, 3), (36, .iconst (-1), 1), (37, .ireturn, 1)]
theorem okX11_colour : ∀ q ∈ iX11_colour, decode cX11_colour q.1 = .ok q.2 := by decide +kernel
def iX11_unclean : List (Nat × Instr × Nat) := [(0, .iconst 0, 1), (1, .istore_n 1, 1), (2, .iconst 0, 1), (3, .istore_n 2, 1), (4, .iload_n 2, 1), (5, .aload_n 0, 1), (6, .getfield 54, 3), (9, .invokevirtual 74, 3), (12, .if_icmp .ge 36, 3), (15, .aload_n 0, 1), (16, .getfield 54, 3), (19, .iload_n 2, 1), (20, .invokevirtual 232, 3), (23, .getfield 199, 3), (26, .aload_n 0, 1), (27, .getfield 26, 3), (30, .invokevirtual 174, 3), (33, .ifCond .ne 9, 3), (36, .iload_n 1, 1), (37, .iconst 1, 1), (38, .iload_n 2, 1), (39, .ishl, 1), (40, .ior, 1), (41, .istore_n 1, 1), (42, .iinc 2 1, 3), (45, .goto (-41), 3), (48, .aload_n 0, 1), (49, .getfield 54, 3), (52, .invokevirtual 74, 3), (55, .ifCond .le 38, 3), (58, .aload_n 0, 1), (59, .getfield 54, 3), (62, .aload_n 0, 1), (63, .getfield 54, 3), (66, .invokevirtual 74, 3), (69, .iconst 1, 1), (70, .isub, 1), (71, .invokevirtual 232, 3), (74, .getfield 205, 3), (77, .aload_n 0, 1), (78, .getfield 26, 3), (81, .invokevirtual 174, 3), (84, .ifCond .ne 9, 3), (87, .iload_n 1, 1), (88, .sipush 4096, 3), (91, .ior, 1), (92, .istore_n 1, 1), (93, .iload_n 1, 1), (94, .ireturn, 1)]
theorem okX11_unclean : ∀ q ∈ iX11_unclean, decode cX11_unclean q.1 = .ok q.2 := by decide +kernel
def iX11_fails : List (Nat × Instr × Nat) := [(0, .aload_n 0, 1), (1, .iload_n 1, 1), (2, .invokevirtual 209, 3), (5, .ifCond .eq 23, 3), (8, .aload_n 0, 1), (9, .getfield 54, 3), (12, .iload_n 2, 1), (13, .invokevirtual 212, 3), (16, .ifCond .eq 12, 3), (19, .iload_n 3, 1), (20, .iconst 0, 1), (21, .iconst 1, 1), (22, .invokestatic 70, 3), (25, .ifCond .ne 5, 3), (28, .iconst (-1), 1), (29, .ireturn, 1), (30, .bipush (-2), 2), (32, .istore 4, 2), (34, .aload_n 0, 1), (35, .iload_n 1, 1), (36, .iload_n 2, 1), (37, .invokevirtual 235, 3), (40, .istore 5, 2), (42, .iconst 0, 1), (43, .istore 6, 2), (45, .iload 6, 2), (47, .aload_n 0, 1), (48, .invokevirtual 78, 3), (51, .if_icmp .ge 33, 3), (54, .aload_n 0, 1), (55, .iload 6, 2), (57, .iload_n 2, 1), (58, .invokevirtual 235, 3), (61, .istore 7, 2), (63, .iload 7, 2), (65, .iload 5, 2), (67, .if_icmp .ge 11, 3), (70, .iload 7, 2), (72, .istore 5, 2), (74, .iload 6, 2), (76, .istore 4, 2), (78, .iinc 6 1, 3), (81, .goto (-36), 3), (84, .iload_n 3, 1), (85, .ifCond .ne 8, 3), (88, .iload 5, 2), (90, .goto 5, 3), (93, .iload 4, 2), (95, .ireturn, 1)]
theorem okX11_fails : ∀ q ∈ iX11_fails, decode cX11_fails q.1 = .ok q.2 := by decide +kernel
def iX11_cut : List (Nat × Instr × Nat) := [(0, .aload_n 0, 1), (1, .getfield 54, 3), (4, .invokevirtual 74, 3), (7, .ifCond .ne 6, 3), (10, .bipush (-3), 2), (12, .ireturn, 1), (13, .aload_n 0, 1), (14, .getfield 54, 3), (17, .invokevirtual 238, 3), (20, .aload_n 0, 1), (21, .getfield 54, 3), (24, .invokevirtual 74, 3), (27, .ireturn, 1)]
theorem okX11_cut : ∀ q ∈ iX11_cut, decode cX11_cut q.1 = .ok q.2 := by decide +kernel
def iX11_mark : List (Nat × Instr × Nat) := [(0, .iload_n 1, 1), (1, .iconst 0, 1), (2, .bipush 9, 2), (4, .invokestatic 70, 3), (7, .ifCond .ne 5, 3), (10, .iconst (-1), 1), (11, .ireturn, 1), (12, .iload_n 2, 1), (13, .iconst 0, 1), (14, .sipush 999, 3), (17, .invokestatic 70, 3), (20, .ifCond .eq 15, 3), (23, .aload_n 0, 1), (24, .getfield 61, 3), (27, .iload_n 1, 1), (28, .iload_n 2, 1), (29, .invokevirtual 241, 3), (32, .ifCond .ne 6, 3), (35, .bipush (-2), 2), (37, .ireturn, 1), (38, .iload_n 3, 1), (39, .invokestatic 65, 3), (42, .ifCond .eq 23, 3), (45, .iload 4, 2), (47, .invokestatic 65, 3), (50, .ifCond .eq 15, 3), (53, .iload 5, 2), (55, .iconst 0, 1), (56, .sipush 200, 3), (59, .invokestatic 70, 3), (62, .ifCond .ne 6, 3), (65, .bipush (-2), 2), (67, .ireturn, 1), (68, .aload_n 0, 1), (69, .getfield 61, 3), (72, .invokevirtual 245, 3), (75, .sipush 200, 3), (78, .if_icmp .lt 6, 3), (81, .bipush (-4), 2), (83, .ireturn, 1), (84, .aload_n 0, 1), (85, .getfield 61, 3), (88, .iload_n 1, 1), (89, .iload_n 2, 1), (90, .iload_n 3, 1), (91, .iload 4, 2), (93, .iload 5, 2), (95, .invokevirtual 246, 3), (98, .aload_n 0, 1), (99, .getfield 61, 3), (102, .invokevirtual 245, 3), (105, .ireturn, 1)]
theorem okX11_mark : ∀ q ∈ iX11_mark, decode cX11_mark q.1 = .ok q.2 := by decide +kernel
def iX11_first : List (Nat × Instr × Nat) := [(0, .aload_n 0, 1), (1, .getfield 61, 3), (4, .aload_n 0, 1), (5, .getfield 26, 3), (8, .invokevirtual 249, 3), (11, .ireturn, 1)]
theorem okX11_first : ∀ q ∈ iX11_first, decode cX11_first q.1 = .ok q.2 := by decide +kernel
def iX11_who : List (Nat × Instr × Nat) := [(0, .iload_n 1, 1), (1, .ifCond .ne 11, 3), (4, .aload_n 0, 1), (5, .getfield 61, 3), (8, .getfield 253, 3), (11, .ireturn, 1), (12, .iload_n 1, 1), (13, .iconst 1, 1), (14, .if_icmp .ne 13, 3), (17, .aload_n 0, 1), (18, .getfield 61, 3), (21, .getfield 256, 3), (24, .goto 4, 3), (27, .iconst (-1), 1), (28, .ireturn, 1)]
theorem okX11_who : ∀ q ∈ iX11_who, decode cX11_who q.1 = .ok q.2 := by decide +kernel
def iX11_wipe : List (Nat × Instr × Nat) := [(0, .aload_n 0, 1), (1, .getfield 61, 3), (4, .invokevirtual 245, 3), (7, .istore_n 1, 1), (8, .aload_n 0, 1), (9, .getfield 61, 3), (12, .invokevirtual 259, 3), (15, .iload_n 1, 1), (16, .ireturn, 1)]
theorem okX11_wipe : ∀ q ∈ iX11_wipe, decode cX11_wipe q.1 = .ok q.2 := by decide +kernel
def iX11_count : List (Nat × Instr × Nat) := [(0, .iload_n 1, 1), (1, .tableswitch 96 0 6 #[43, 48, 56, 64, 72, 80, 88], 43), (44, .aload_n 0, 1), (45, .invokevirtual 78, 3), (48, .ireturn, 1), (49, .aload_n 0, 1), (50, .getfield 19, 3), (53, .invokevirtual 99, 3), (56, .ireturn, 1), (57, .aload_n 0, 1), (58, .getfield 54, 3), (61, .invokevirtual 74, 3), (64, .ireturn, 1), (65, .aload_n 0, 1), (66, .getfield 61, 3), (69, .invokevirtual 245, 3), (72, .ireturn, 1), (73, .aload_n 0, 1), (74, .getfield 10, 3), (77, .invokevirtual 95, 3), (80, .ireturn, 1), (81, .aload_n 0, 1), (82, .getfield 26, 3), (85, .getfield 134, 3), (88, .ireturn, 1), (89, .aload_n 0, 1), (90, .getfield 54, 3), (93, .getfield 226, 3), (96, .ireturn, 1), (97, .iconst (-1), 1), (98, .ireturn, 1)]
theorem okX11_count : ∀ q ∈ iX11_count, decode cX11_count q.1 = .ok q.2 := by decide +kernel
def iX11_flyers : List (Nat × Instr × Nat) := [(0, .aload_n 0, 1), (1, .getfield 19, 3), (4, .iconst (-1), 1), (5, .invokevirtual 81, 3), (8, .invokevirtual 117, 3), (11, .ireturn, 1)]
theorem okX11_flyers : ∀ q ∈ iX11_flyers, decode cX11_flyers q.1 = .ok q.2 := by decide +kernel
def iX11_isFlyer : List (Nat × Instr × Nat) := [(0, .aload_n 0, 1), (1, .getfield 19, 3), (4, .iconst (-1), 1), (5, .invokevirtual 81, 3), (8, .iload_n 1, 1), (9, .invokevirtual 126, 3), (12, .ireturn, 1)]
theorem okX11_isFlyer : ∀ q ∈ iX11_isFlyer, decode cX11_isFlyer q.1 = .ok q.2 := by decide +kernel
def iX11_isPicture : List (Nat × Instr × Nat) := [(0, .iload_n 1, 1), (1, .iconst (-1), 1), (2, .if_icmp .eq 14, 3), (5, .aload_n 0, 1), (6, .getfield 19, 3), (9, .iload_n 1, 1), (10, .invokevirtual 114, 3), (13, .ifCond .eq 7, 3), (16, .iconst 1, 1), (17, .goto 4, 3), (20, .iconst 0, 1), (21, .ireturn, 1)]
theorem okX11_isPicture : ∀ q ∈ iX11_isPicture, decode cX11_isPicture q.1 = .ok q.2 := by decide +kernel
def iX11_worth : List (Nat × Instr × Nat) := [(0, .aload_n 0, 1), (1, .getfield 19, 3), (4, .aload_n 0, 1), (5, .getfield 54, 3), (8, .iload_n 2, 1), (9, .invokevirtual 232, 3), (12, .getfield 196, 3), (15, .invokevirtual 81, 3), (18, .aload_n 0, 1), (19, .getfield 54, 3), (22, .iload_n 1, 1), (23, .iload_n 2, 1), (24, .invokevirtual 213, 3), (27, .iconst 3, 1), (28, .invokevirtual 127, 3), (31, .ireturn, 1)]
theorem okX11_worth : ∀ q ∈ iX11_worth, decode cX11_worth q.1 = .ok q.2 := by decide +kernel
def iX11_isWithin : List (Nat × Instr × Nat) := [(0, .iload_n 0, 1), (1, .iload_n 1, 1), (2, .if_icmp .lt 12, 3), (5, .iload_n 0, 1), (6, .iload_n 2, 1), (7, .if_icmp .gt 7, 3), (10, .iconst 1, 1), (11, .goto 4, 3), (14, .iconst 0, 1), (15, .ireturn, 1)]
theorem okX11_isWithin : ∀ q ∈ iX11_isWithin, decode cX11_isWithin q.1 = .ok q.2 := by decide +kernel
def iX11_isAcross : List (Nat × Instr × Nat) := [(0, .iload_n 0, 1), (1, .sipush (-200), 3), (4, .sipush 200, 3), (7, .invokestatic 70, 3), (10, .ireturn, 1)]
theorem okX11_isAcross : ∀ q ∈ iX11_isAcross, decode cX11_isAcross q.1 = .ok q.2 := by decide +kernel
def iX11_bit : List (Nat × Instr × Nat) := [(0, .iload_n 0, 1), (1, .ifCond .eq 7, 3), (4, .iconst 1, 1), (5, .goto 4, 3), (8, .iconst 0, 1), (9, .ireturn, 1)]
theorem okX11_bit : ∀ q ∈ iX11_bit, decode cX11_bit q.1 = .ok q.2 := by decide +kernel
def iJ6_bitCount_0f7a4 : List (Nat × Instr × Nat) := [(0, .iload_n 0, 1), (1, .iload_n 0, 1), (2, .iconst 1, 1), (3, .iushr, 1), (4, .ldc_w 265, 3), (7, .iand, 1), (8, .isub, 1), (9, .istore_n 0, 1), (10, .iload_n 0, 1), (11, .ldc_w 266, 3), (14, .iand, 1), (15, .iload_n 0, 1), (16, .iconst 2, 1), (17, .iushr, 1), (18, .ldc_w 266, 3), (21, .iand, 1), (22, .iadd, 1), (23, .istore_n 0, 1), (24, .iload_n 0, 1), (25, .iload_n 0, 1), (26, .iconst 4, 1), (27, .iushr, 1), (28, .iadd, 1), (29, .ldc_w 267, 3), (32, .iand, 1), (33, .istore_n 0, 1), (34, .iload_n 0, 1), (35, .iload_n 0, 1), (36, .bipush 8, 2), (38, .iushr, 1), (39, .iadd, 1), (40, .istore_n 0, 1), (41, .iload_n 0, 1), (42, .iload_n 0, 1), (43, .bipush 16, 2), (45, .iushr, 1), (46, .iadd, 1), (47, .istore_n 0, 1), (48, .iload_n 0, 1), (49, .bipush 63, 2), (51, .iand, 1), (52, .ireturn, 1)]
theorem okJ6_bitCount_0f7a4 : ∀ q ∈ iJ6_bitCount_0f7a4, decode cJ6_bitCount_0f7a4 q.1 = .ok q.2 := by decide +kernel
def iJ9_max_7cf53 : List (Nat × Instr × Nat) := [(0, .iload_n 0, 1), (1, .iload_n 1, 1), (2, .if_icmp .lt 7, 3), (5, .iload_n 0, 1), (6, .goto 4, 3), (9, .iload_n 1, 1), (10, .ireturn, 1)]
theorem okJ9_max_7cf53 : ∀ q ∈ iJ9_max_7cf53, decode cJ9_max_7cf53 q.1 = .ok q.2 := by decide +kernel
def iJ9_min_7cf53 : List (Nat × Instr × Nat) := [(0, .iload_n 0, 1), (1, .iload_n 1, 1), (2, .if_icmp .gt 7, 3), (5, .iload_n 0, 1), (6, .goto 4, 3), (9, .iload_n 1, 1), (10, .ireturn, 1)]
theorem okJ9_min_7cf53 : ∀ q ∈ iJ9_min_7cf53, decode cJ9_min_7cf53 q.1 = .ok q.2 := by decide +kernel
end
section
def iX12_init : List (Nat × Instr × Nat) := [(0, .aload_n 0, 1), (1, .invokespecial 1, 3), (4, .aload_n 0, 1), (5, .bipush 10, 2), (7, .newarray .int, 2), (9, .putfield 7, 3), (12, .aload_n 0, 1), (13, .bipush 10, 2), (15, .newarray .int, 2), (17, .putfield 13, 3), (20, .aload_n 0, 1), (21, .bipush 10, 2), (23, .newarray .int, 2), (25, .putfield 16, 3), (28, .aload_n 0, 1), (29, .bipush 8, 2), (31, .newarray .int, 2), (33, .putfield 19, 3), (36, .aload_n 0, 1), (37, .bipush 80, 2), (39, .newarray .int, 2), (41, .putfield 22, 3), (44, .aload_n 0, 1), (45, .bipush 80, 2), (47, .newarray .int, 2), (49, .putfield 25, 3), (52, .aload_n 0, 1), (53, .bipush 80, 2), (55, .newarray .int, 2), (57, .putfield 28, 3), (60, .aload_n 0, 1), (61, .bipush 80, 2), (63, .newarray .int, 2), (65, .putfield 31, 3), (68, .aload_n 0, 1), (69, .bipush 10, 2), (71, .putfield 34, 3), (74, .aload_n 0, 1), (75, .sipush 300, 3), (78, .newarray .int, 2), (80, .putfield 38, 3), (83, .aload_n 0, 1), (84, .bipush 20, 2), (86, .newarray .int, 2), (88, .putfield 41, 3), (91, .aload_n 0, 1), (92, .bipush 20, 2), (94, .newarray .int, 2), (96, .putfield 44, 3), (99, .aload_n 0, 1), (100, .bipush 20, 2), (102, .newarray .int, 2), (104, .putfield 47, 3), (107, .aload_n 0, 1), (108, .bipush 20, 2), (110, .newarray .int, 2), (112, .putfield 50, 3), (115, .aload_n 0, 1), (116, .bipush 20, 2), (118, .newarray .int, 2), (120, .putfield 53, 3), (123, .aload_n 0, 1), (124, .bipush 20, 2), (126, .newarray .int, 2), (128, .putfield 56, 3), (131, .aload_n 0, 1), (132, .bipush 20, 2), (134, .newarray .int, 2), (136, .putfield 59, 3), (139, .aload_n 0, 1), (140, .iconst 2, 1), (141, .newarray .int, 2), (143, .putfield 62, 3), (146, .aload_n 0, 1), (147, .iconst 2, 1), (148, .newarray .int, 2), (150, .putfield 65, 3), (153, .aload_n 0, 1), (154, .bipush 10, 2), (156, .newarray .int, 2), (158, .putfield 68, 3), (161, .aload_n 0, 1), (162, .bipush 100, 2), (164, .newarray .int, 2), (166, .putfield 71, 3), (169, .aload_n 0, 1), (170, .sipush 1024, 3), (173, .newarray .int, 2), (175, .putfield 74, 3), (178, .aload_n 0, 1), (179, .bipush 10, 2), (181, .newarray .int, 2), (183, .putfield 77, 3), (186, .aload_n 0, 1), (187, .bipush 10, 2), (189, .newarray .int, 2), (191, .putfield 80, 3), (194, .aload_n 0, 1), (195, .bipush 10, 2), (197, .newarray .int, 2), (199, .putfield 83, 3), (202, .aload_n 0, 1), (203, .bipush 10, 2), (205, .newarray .int, 2), (207, .putfield 86, 3), (210, .aload_n 0, 1), (211, .bipush 10, 2), (213, .newarray .int, 2), (215, .putfield 89, 3), (218, .aload_n 0, 1), (219, .bipush 12, 2), (221, .newarray .int, 2), (223, .putfield 92, 3), (226, .aload_n 0, 1), (227, .bipush 12, 2), (229, .newarray .int, 2), (231, .putfield 95, 3), (234, .aload_n 0, 1), (235, .bipush 12, 2), (237, .newarray .int, 2), (239, .putfield 98, 3), (242, .aload_n 0, 1), (243, .bipush 12, 2), (245, .newarray .int, 2), (247, .putfield 101, 3), (250, .aload_n 0, 1), (251, .bipush 120, 2), (253, .newarray .int, 2), (255, .putfield 104, 3), (258, .aload_n 0, 1), (259, .bipush 10, 2), (261, .newarray .int, 2), (263, .putfield 107, 3), (266, .aload_n 0, 1), (267, .bipush 50, 2), (269, .putfield 110, 3), (272, .aload_n 0, 1), (273, .sipush 200, 3), (276, .newarray .int, 2), (278, .putfield 113, 3), (281, .aload_n 0, 1), (282, .sipush 200, 3), (285, .newarray .int, 2), (287, .putfield 116, 3), (290, .aload_n 0, 1), (291, .sipush 200, 3), (294, .newarray .int, 2), (296, .putfield 119, 3), (299, .aload_n 0, 1), (300, .sipush 200, 3), (303, .newarray .int, 2), (305, .putfield 122, 3), (308, .aload_n 0, 1), (309, .sipush 200, 3), (312, .newarray .int, 2), (314, .putfield 125, 3), (317, .aload_n 0, 1), (318, .bipush 10, 2), (320, .newarray .int, 2), (322, .putfield 128, 3), (325, .aload_n 0, 1), (326, .bipush 10, 2), (328, .newarray .int, 2), (330, .putfield 131, 3), (333, .aload_n 0, 1), (334, .iconst (-1), 1), (335, .putfield 134, 3), (338, .aload_n 0, 1), (339, .iconst (-1), 1), (340, .putfield 137, 3), (343, .return_, 1)]
theorem okX12_init : ∀ q ∈ iX12_init, decode cX12_init q.1 = .ok q.2 := by decide +kernel
def iX12_isIn : List (Nat × Instr × Nat) := [(0, .lload_n 0, 1), (1, .lload_n 2, 1), (2, .lcmp, 1), (3, .ifCond .lt 14, 3), (6, .lload_n 0, 1), (7, .lload 4, 2), (9, .lcmp, 1), (10, .ifCond .gt 7, 3), (13, .iconst 1, 1), (14, .goto 4, 3), (17, .iconst 0, 1), (18, .ireturn, 1)]
theorem okX12_isIn : ∀ q ∈ iX12_isIn, decode cX12_isIn q.1 = .ok q.2 := by decide +kernel
def iX12_isFlyer : List (Nat × Instr × Nat) := [(0, .iload_n 1, 1), (1, .ifCond .lt 15, 3), (4, .iload_n 1, 1), (5, .aload_n 0, 1), (6, .getfield 140, 3), (9, .if_icmp .ge 7, 3), (12, .iconst 1, 1), (13, .goto 4, 3), (16, .iconst 0, 1), (17, .ireturn, 1)]
theorem okX12_isFlyer : ∀ q ∈ iX12_isFlyer, decode cX12_isFlyer q.1 = .ok q.2 := by decide +kernel
def iX12_isFigure : List (Nat × Instr × Nat) := [(0, .iload_n 1, 1), (1, .ifCond .lt 15, 3), (4, .iload_n 1, 1), (5, .aload_n 0, 1), (6, .getfield 143, 3), (9, .if_icmp .ge 7, 3), (12, .iconst 1, 1), (13, .goto 4, 3), (16, .iconst 0, 1), (17, .ireturn, 1)]
theorem okX12_isFigure : ∀ q ∈ iX12_isFigure, decode cX12_isFigure q.1 = .ok q.2 := by decide +kernel
def iX12_flyer : List (Nat × Instr × Nat) := [(0, .iload_n 1, 1), (1, .i2l, 1), (2, .ldc2_w 146, 3), (5, .ldc2_w 148, 3), (8, .invokestatic 150, 3), (11, .ifCond .eq 29, 3), (14, .iload_n 2, 1), (15, .i2l, 1), (16, .ldc2_w 146, 3), (19, .ldc2_w 148, 3), (22, .invokestatic 150, 3), (25, .ifCond .eq 15, 3), (28, .iload_n 3, 1), (29, .i2l, 1), (30, .lconst 0, 1), (31, .ldc2_w 154, 3), (34, .invokestatic 150, 3), (37, .ifCond .ne 6, 3), (40, .bipush (-2), 2), (42, .ireturn, 1), (43, .aload_n 0, 1), (44, .getfield 156, 3), (47, .ifCond .le 6, 3), (50, .bipush (-3), 2), (52, .ireturn, 1), (53, .aload_n 0, 1), (54, .getfield 140, 3), (57, .bipush 10, 2), (59, .if_icmp .ne 6, 3), (62, .bipush (-4), 2), (64, .ireturn, 1), (65, .aload_n 0, 1), (66, .getfield 7, 3), (69, .aload_n 0, 1), (70, .getfield 140, 3), (73, .iload_n 1, 1), (74, .iastore, 1), (75, .aload_n 0, 1), (76, .getfield 13, 3), (79, .aload_n 0, 1), (80, .getfield 140, 3), (83, .iload_n 2, 1), (84, .iastore, 1), (85, .aload_n 0, 1), (86, .getfield 16, 3), (89, .aload_n 0, 1), (90, .getfield 140, 3), (93, .iload_n 3, 1), (94, .iastore, 1), (95, .aload_n 0, 1), (96, .dup, 1), (97, .getfield 140, 3), (100, .iconst 1, 1), (101, .iadd, 1), (102, .putfield 140, 3), (105, .aload_n 0, 1), (106, .getfield 140, 3), (109, .iconst 1, 1), (110, .isub, 1), (111, .ireturn, 1)]
theorem okX12_flyer : ∀ q ∈ iX12_flyer, decode cX12_flyer q.1 = .ok q.2 := by decide +kernel
def iX12_feed : List (Nat × Instr × Nat) := [(0, .iload_n 3, 1), (1, .i2l, 1), (2, .lconst 1, 1), (3, .ldc2_w 159, 3), (6, .invokestatic 150, 3), (9, .ifCond .ne 6, 3), (12, .bipush (-2), 2), (14, .ireturn, 1), (15, .aload_n 0, 1), (16, .getfield 161, 3), (19, .iload_n 3, 1), (20, .iadd, 1), (21, .sipush 300, 3), (24, .if_icmp .le 6, 3), (27, .bipush (-4), 2), (29, .ireturn, 1), (30, .iload_n 3, 1), (31, .iconst 1, 1), (32, .isub, 1), (33, .istore 4, 2), (35, .iload 4, 2), (37, .ifCond .lt 40, 3), (40, .aload_n 0, 1), (41, .getfield 38, 3), (44, .aload_n 0, 1), (45, .getfield 161, 3), (48, .lload_n 1, 1), (49, .bipush 8, 2), (51, .iload 4, 2), (53, .imul, 1), (54, .lshr, 1), (55, .ldc2_w 164, 3), (58, .land, 1), (59, .l2i, 1), (60, .iastore, 1), (61, .aload_n 0, 1), (62, .dup, 1), (63, .getfield 161, 3), (66, .iconst 1, 1), (67, .iadd, 1), (68, .putfield 161, 3), (71, .iinc 4 (-1), 3), (74, .goto (-39), 3), (77, .aload_n 0, 1), (78, .getfield 161, 3), (81, .ireturn, 1)]
theorem okX12_feed : ∀ q ∈ iX12_feed, decode cX12_feed q.1 = .ok q.2 := by decide +kernel
def iX12_sign : List (Nat × Instr × Nat) := [(0, .aload_n 0, 1), (1, .getfield 166, 3), (4, .aload_n 0, 1), (5, .getfield 161, 3), (8, .if_icmp .ge 15, 3), (11, .aload_n 0, 1), (12, .getfield 38, 3), (15, .aload_n 0, 1), (16, .getfield 166, 3), (19, .iaload, 1), (20, .goto 4, 3), (23, .iconst (-1), 1), (24, .ireturn, 1)]
theorem okX12_sign : ∀ q ∈ iX12_sign, decode cX12_sign q.1 = .ok q.2 := by decide +kernel
def iX12_isDigit : List (Nat × Instr × Nat) := [(0, .iload_n 0, 1), (1, .bipush 48, 2), (3, .if_icmp .lt 13, 3), (6, .iload_n 0, 1), (7, .bipush 57, 2), (9, .if_icmp .gt 7, 3), (12, .iconst 1, 1), (13, .goto 4, 3), (16, .iconst 0, 1), (17, .ireturn, 1)]
theorem okX12_isDigit : ∀ q ∈ iX12_isDigit, decode cX12_isDigit q.1 = .ok q.2 := by decide +kernel
def iX12_takes : List (Nat × Instr × Nat) := [(0, .aload_n 0, 1), (1, .invokevirtual 169, 3), (4, .iload_n 1, 1), (5, .if_icmp .eq 5, 3), (8, .iconst 0, 1), (9, .ireturn, 1), (10, .aload_n 0, 1), (11, .dup, 1), (12, .getfield 166, 3), (15, .iconst 1, 1), (16, .iadd, 1), (17, .putfield 166, 3), (20, .iconst 1, 1), (21, .ireturn, 1)]
theorem okX12_takes : ∀ q ∈ iX12_takes, decode cX12_takes q.1 = .ok q.2 := by decide +kernel
def iX12_number : List (Nat × Instr × Nat) := [(0, .iload_n 1, 1), (1, .ifCond .eq 16, 3), (4, .aload_n 0, 1), (5, .bipush 45, 2), (7, .invokevirtual 173, 3), (10, .ifCond .eq 7, 3), (13, .iconst 1, 1), (14, .goto 4, 3), (17, .iconst 0, 1), (18, .istore_n 2, 1), (19, .aload_n 0, 1), (20, .invokevirtual 169, 3), (23, .invokestatic 177, 3), (26, .ifCond .eq 16, 3), (29, .iload_n 2, 1), (30, .ifCond .eq 14, 3), (33, .aload_n 0, 1), (34, .invokevirtual 169, 3), (37, .bipush 48, 2), (39, .if_icmp .ne 5, 3), (42, .iconst 0, 1), (43, .ireturn, 1), (44, .aload_n 0, 1), (45, .invokevirtual 169, 3), (48, .bipush 48, 2), (50, .isub, 1), (51, .istore_n 3, 1), (52, .aload_n 0, 1), (53, .dup, 1), (54, .getfield 166, 3), (57, .iconst 1, 1), (58, .iadd, 1), (59, .putfield 166, 3), (62, .aload_n 0, 1), (63, .invokevirtual 169, 3), (66, .invokestatic 177, 3), (69, .ifCond .eq 47, 3), (72, .bipush 10, 2), (74, .iload_n 3, 1), (75, .imul, 1), (76, .aload_n 0, 1), (77, .invokevirtual 169, 3), (80, .iadd, 1), (81, .bipush 48, 2), (83, .isub, 1), (84, .istore 4, 2), (86, .iload_n 3, 1), (87, .ifCond .eq 11, 3), (90, .iload 4, 2), (92, .sipush 200, 3), (95, .if_icmp .le 5, 3), (98, .iconst 0, 1), (99, .ireturn, 1), (100, .iload 4, 2), (102, .istore_n 3, 1), (103, .aload_n 0, 1), (104, .dup, 1), (105, .getfield 166, 3), (108, .iconst 1, 1), (109, .iadd, 1), (110, .putfield 166, 3), (113, .goto (-51), 3), (116, .aload_n 0, 1), (117, .iload_n 2, 1), (118, .ifCond .eq 8, 3), (121, .iload_n 3, 1), (122, .ineg, 1), (123, .goto 4, 3), (126, .iload_n 3, 1), (127, .putfield 180, 3), (130, .iconst 1, 1), (131, .ireturn, 1)]
theorem okX12_number : ∀ q ∈ iX12_number, decode cX12_number q.1 = .ok q.2 := by decide +kernel
def iX12_point : List (Nat × Instr × Nat) := [(0, .aload_n 0, 1), (1, .iconst 1, 1), (2, .invokevirtual 183, 3), (5, .ifCond .ne 5, 3), (8, .iconst 0, 1), (9, .ireturn, 1), (10, .aload_n 0, 1), (11, .getfield 22, 3), (14, .iload_n 1, 1), (15, .aload_n 0, 1), (16, .getfield 180, 3), (19, .iastore, 1), (20, .aload_n 0, 1), (21, .bipush 44, 2), (23, .invokevirtual 173, 3), (26, .ifCond .eq 11, 3), (29, .aload_n 0, 1), (30, .iconst 1, 1), (31, .invokevirtual 183, 3), (34, .ifCond .ne 5, 3), (37, .iconst 0, 1), (38, .ireturn, 1), (39, .aload_n 0, 1), (40, .getfield 25, 3), (43, .iload_n 1, 1), (44, .aload_n 0, 1), (45, .getfield 180, 3), (48, .iastore, 1), (49, .aload_n 0, 1), (50, .bipush 44, 2), (52, .invokevirtual 173, 3), (55, .ifCond .eq 11, 3), (58, .aload_n 0, 1), (59, .iconst 0, 1), (60, .invokevirtual 183, 3), (63, .ifCond .ne 5, 3), (66, .iconst 0, 1), (67, .ireturn, 1), (68, .aload_n 0, 1), (69, .getfield 28, 3), (72, .iload_n 1, 1), (73, .aload_n 0, 1), (74, .getfield 180, 3), (77, .iastore, 1), (78, .aload_n 0, 1), (79, .bipush 58, 2), (81, .invokevirtual 173, 3), (84, .ifCond .eq 13, 3), (87, .aload_n 0, 1), (88, .invokevirtual 169, 3), (91, .invokestatic 177, 3), (94, .ifCond .ne 5, 3), (97, .iconst 0, 1), (98, .ireturn, 1), (99, .aload_n 0, 1), (100, .getfield 31, 3), (103, .iload_n 1, 1), (104, .aload_n 0, 1), (105, .invokevirtual 169, 3), (108, .bipush 48, 2), (110, .isub, 1), (111, .iastore, 1), (112, .aload_n 0, 1), (113, .dup, 1), (114, .getfield 166, 3), (117, .iconst 1, 1), (118, .iadd, 1), (119, .putfield 166, 3), (122, .iconst 1, 1), (123, .ireturn, 1)]
theorem okX12_point : ∀ q ∈ iX12_point, decode cX12_point q.1 = .ok q.2 := by decide +kernel
def iX12_points : List (Nat × Instr × Nat) := [(0, .aload_n 0, 1), (1, .iconst 0, 1), (2, .putfield 166, 3), (5, .iconst 1, 1), (6, .istore_n 1, 1), (7, .iload_n 1, 1), (8, .bipush 10, 2), (10, .if_icmp .gt 59, 3), (13, .aload_n 0, 1), (14, .bipush 10, 2), (16, .aload_n 0, 1), (17, .getfield 143, 3), (20, .imul, 1), (21, .iload_n 1, 1), (22, .iadd, 1), (23, .iconst 1, 1), (24, .isub, 1), (25, .invokevirtual 186, 3), (28, .ifCond .ne 5, 3), (31, .iconst 0, 1), (32, .ireturn, 1), (33, .aload_n 0, 1), (34, .getfield 166, 3), (37, .aload_n 0, 1), (38, .getfield 161, 3), (41, .if_icmp .ne 5, 3), (44, .iload_n 1, 1), (45, .ireturn, 1), (46, .iload_n 1, 1), (47, .bipush 10, 2), (49, .if_icmp .eq 12, 3), (52, .aload_n 0, 1), (53, .bipush 59, 2), (55, .invokevirtual 173, 3), (58, .ifCond .ne 5, 3), (61, .iconst 0, 1), (62, .ireturn, 1), (63, .iinc 1 1, 3), (66, .goto (-59), 3), (69, .iconst 0, 1), (70, .ireturn, 1)]
theorem okX12_points : ∀ q ∈ iX12_points, decode cX12_points q.1 = .ok q.2 := by decide +kernel
def iX12_figure : List (Nat × Instr × Nat) := [(0, .aload_n 0, 1), (1, .getfield 143, 3), (4, .bipush 8, 2), (6, .if_icmp .ne 6, 3), (9, .bipush (-4), 2), (11, .ireturn, 1), (12, .aload_n 0, 1), (13, .invokevirtual 189, 3), (16, .istore_n 1, 1), (17, .aload_n 0, 1), (18, .iconst 0, 1), (19, .putfield 161, 3), (22, .iload_n 1, 1), (23, .ifCond .ne 11, 3), (26, .bipush (-10), 2), (28, .aload_n 0, 1), (29, .getfield 166, 3), (32, .isub, 1), (33, .ireturn, 1), (34, .aload_n 0, 1), (35, .getfield 19, 3), (38, .aload_n 0, 1), (39, .getfield 143, 3), (42, .iload_n 1, 1), (43, .iastore, 1), (44, .aload_n 0, 1), (45, .dup, 1), (46, .getfield 143, 3), (49, .iconst 1, 1), (50, .iadd, 1), (51, .putfield 143, 3), (54, .aload_n 0, 1), (55, .getfield 143, 3), (58, .iconst 1, 1), (59, .isub, 1), (60, .ireturn, 1)]
theorem okX12_figure : ∀ q ∈ iX12_figure, decode cX12_figure q.1 = .ok q.2 := by decide +kernel
def iX12_square : List (Nat × Instr × Nat) := [(0, .iload_n 0, 1), (1, .iload_n 0, 1), (2, .imul, 1), (3, .ireturn, 1)]
theorem okX12_square : ∀ q ∈ iX12_square, decode cX12_square q.1 = .ok q.2 := by decide +kernel
def iX12_apart : List (Nat × Instr × Nat) := [(0, .aload_n 0, 1), (1, .getfield 22, 3), (4, .iload_n 1, 1), (5, .iaload, 1), (6, .aload_n 0, 1), (7, .getfield 22, 3), (10, .iload_n 2, 1), (11, .iaload, 1), (12, .isub, 1), (13, .invokestatic 192, 3), (16, .aload_n 0, 1), (17, .getfield 25, 3), (20, .iload_n 1, 1), (21, .iaload, 1), (22, .aload_n 0, 1), (23, .getfield 25, 3), (26, .iload_n 2, 1), (27, .iaload, 1), (28, .isub, 1), (29, .invokestatic 192, 3), (32, .iadd, 1), (33, .aload_n 0, 1), (34, .getfield 28, 3), (37, .iload_n 1, 1), (38, .iaload, 1), (39, .aload_n 0, 1), (40, .getfield 28, 3), (43, .iload_n 2, 1), (44, .iaload, 1), (45, .isub, 1), (46, .invokestatic 192, 3), (49, .iadd, 1), (50, .ireturn, 1)]
theorem okX12_apart : ∀ q ∈ iX12_apart, decode cX12_apart q.1 = .ok q.2 := by decide +kernel
def iX12_least : List (Nat × Instr × Nat) := [(0, .iconst (-1), 1), (1, .istore_n 2, 1), (2, .iconst 0, 1), (3, .istore_n 3, 1), (4, .iload_n 3, 1), (5, .aload_n 0, 1), (6, .getfield 19, 3), (9, .iload_n 1, 1), (10, .iaload, 1), (11, .if_icmp .ge 56, 3), (14, .iconst 0, 1), (15, .istore 4, 2), (17, .iload 4, 2), (19, .iload_n 3, 1), (20, .if_icmp .ge 41, 3), (23, .aload_n 0, 1), (24, .bipush 10, 2), (26, .iload_n 1, 1), (27, .imul, 1), (28, .iload_n 3, 1), (29, .iadd, 1), (30, .bipush 10, 2), (32, .iload_n 1, 1), (33, .imul, 1), (34, .iload 4, 2), (36, .iadd, 1), (37, .invokevirtual 196, 3), (40, .istore 5, 2), (42, .iload_n 2, 1), (43, .ifCond .lt 9, 3), (46, .iload 5, 2), (48, .iload_n 2, 1), (49, .if_icmp .ge 6, 3), (52, .iload 5, 2), (54, .istore_n 2, 1), (55, .iinc 4 1, 3), (58, .goto (-41), 3), (61, .iinc 3 1, 3), (64, .goto (-60), 3), (67, .iload_n 2, 1), (68, .ireturn, 1)]
theorem okX12_least : ∀ q ∈ iX12_least, decode cX12_least q.1 = .ok q.2 := by decide +kernel
def iX12_point_ : List (Nat × Instr × Nat) := [(0, .aload_n 0, 1), (1, .iload_n 1, 1), (2, .invokevirtual 200, 3), (5, .ifCond .eq 23, 3), (8, .iload_n 2, 1), (9, .i2l, 1), (10, .ldc2_w 203, 3), (13, .aload_n 0, 1), (14, .getfield 19, 3), (17, .iload_n 1, 1), (18, .iaload, 1), (19, .iconst 1, 1), (20, .isub, 1), (21, .i2l, 1), (22, .invokestatic 150, 3), (25, .ifCond .ne 7, 3), (28, .sipush (-1000), 3), (31, .ireturn, 1), (32, .iload_n 2, 1), (33, .ifCond .ge 57, 3), (36, .iload_n 3, 1), (37, .ifCond .ne 10, 3), (40, .aload_n 0, 1), (41, .getfield 19, 3), (44, .iload_n 1, 1), (45, .iaload, 1), (46, .ireturn, 1), (47, .aload_n 0, 1), (48, .iload_n 1, 1), (49, .invokevirtual 205, 3), (52, .istore 4, 2), (54, .iload_n 3, 1), (55, .iconst 1, 1), (56, .if_icmp .ne 30, 3), (59, .iload 4, 2), (61, .ifCond .lt 17, 3), (64, .iload 4, 2), (66, .aload_n 0, 1), (67, .getfield 34, 3), (70, .aload_n 0, 1), (71, .getfield 34, 3), (74, .imul, 1), (75, .if_icmp .lt 7, 3), (78, .iconst 1, 1), (79, .goto 10, 3), (82, .iconst 0, 1), (83, .goto 6, 3), (86, .sipush (-1000), 3), (89, .ireturn, 1), (90, .bipush 10, 2), (92, .iload_n 1, 1), (93, .imul, 1), (94, .iload_n 2, 1), (95, .iadd, 1), (96, .istore 4, 2), (98, .iload_n 3, 1), (99, .tableswitch 61 0 3 #[29, 37, 45, 53], 29), (128, .aload_n 0, 1), (129, .getfield 22, 3), (132, .iload 4, 2), (134, .iaload, 1), (135, .ireturn, 1), (136, .aload_n 0, 1), (137, .getfield 25, 3), (140, .iload 4, 2), (142, .iaload, 1), (143, .ireturn, 1), (144, .aload_n 0, 1), (145, .getfield 28, 3), (148, .iload 4, 2), (150, .iaload, 1), (151, .ireturn, 1), (152, .aload_n 0, 1), (153, .getfield 31, 3), (156, .iload 4, 2), (158, .iaload, 1), (159, .ireturn, 1), (160, .sipush (-1000), 3), (163, .ireturn, 1)]
theorem okX12_point_ : ∀ q ∈ iX12_point_, decode cX12_point_ q.1 = .ok q.2 := by decide +kernel
def iX12_spread : List (Nat × Instr × Nat) := [(0, .aload_n 0, 1), (1, .iload_n 1, 1), (2, .invokevirtual 200, 3), (5, .ifCond .eq 11, 3), (8, .aload_n 0, 1), (9, .iload_n 1, 1), (10, .invokevirtual 205, 3), (13, .goto 4, 3), (16, .iconst (-1), 1), (17, .ireturn, 1)]
theorem okX12_spread : ∀ q ∈ iX12_spread, decode cX12_spread q.1 = .ok q.2 := by decide +kernel
def iX12_gap : List (Nat × Instr × Nat) := [(0, .iload_n 1, 1), (1, .i2l, 1), (2, .lconst 0, 1), (3, .ldc2_w 208, 3), (6, .invokestatic 150, 3), (9, .ifCond .ne 6, 3), (12, .bipush (-2), 2), (14, .ireturn, 1), (15, .aload_n 0, 1), (16, .getfield 34, 3), (19, .istore_n 2, 1), (20, .aload_n 0, 1), (21, .iload_n 1, 1), (22, .putfield 34, 3), (25, .iload_n 2, 1), (26, .ireturn, 1)]
theorem okX12_gap : ∀ q ∈ iX12_gap, decode cX12_gap q.1 = .ok q.2 := by decide +kernel
def iX12_zone : List (Nat × Instr × Nat) := [(0, .iload_n 1, 1), (1, .i2l, 1), (2, .ldc2_w 146, 3), (5, .ldc2_w 148, 3), (8, .invokestatic 150, 3), (11, .ifCond .eq 29, 3), (14, .iload_n 2, 1), (15, .i2l, 1), (16, .ldc2_w 146, 3), (19, .ldc2_w 148, 3), (22, .invokestatic 150, 3), (25, .ifCond .eq 15, 3), (28, .iload_n 3, 1), (29, .i2l, 1), (30, .lconst 0, 1), (31, .ldc2_w 148, 3), (34, .invokestatic 150, 3), (37, .ifCond .ne 6, 3), (40, .bipush (-2), 2), (42, .ireturn, 1), (43, .aload_n 0, 1), (44, .iload_n 1, 1), (45, .putfield 210, 3), (48, .aload_n 0, 1), (49, .iload_n 2, 1), (50, .putfield 213, 3), (53, .aload_n 0, 1), (54, .iload_n 3, 1), (55, .putfield 216, 3), (58, .iconst 0, 1), (59, .ireturn, 1)]
theorem okX12_zone : ∀ q ∈ iX12_zone, decode cX12_zone q.1 = .ok q.2 := by decide +kernel
def iX12_isNear : List (Nat × Instr × Nat) := [(0, .lload_n 0, 1), (1, .lload_n 0, 1), (2, .lmul, 1), (3, .lload_n 2, 1), (4, .lload_n 2, 1), (5, .lmul, 1), (6, .ladd, 1), (7, .lload 4, 2), (9, .lload 4, 2), (11, .lmul, 1), (12, .ladd, 1), (13, .lload 14, 2), (15, .lload 14, 2), (17, .lmul, 1), (18, .lsub, 1), (19, .lstore 16, 2), (21, .lload 16, 2), (23, .lconst 0, 1), (24, .lcmp, 1), (25, .ifCond .ge 5, 3), (28, .iconst 1, 1), (29, .ireturn, 1), (30, .lload_n 0, 1), (31, .lload 6, 2), (33, .lload 12, 2), (35, .lmul, 1), (36, .ladd, 1), (37, .lstore 18, 2), (39, .lload_n 2, 1), (40, .lload 8, 2), (42, .lload 12, 2), (44, .lmul, 1), (45, .ladd, 1), (46, .lstore 20, 2), (48, .lload 4, 2), (50, .lload 10, 2), (52, .lload 12, 2), (54, .lmul, 1), (55, .ladd, 1), (56, .lstore 22, 2), (58, .lload 18, 2), (60, .lload 18, 2), (62, .lmul, 1), (63, .lload 20, 2), (65, .lload 20, 2), (67, .lmul, 1), (68, .ladd, 1), (69, .lload 22, 2), (71, .lload 22, 2), (73, .lmul, 1), (74, .ladd, 1), (75, .lload 14, 2), (77, .lload 14, 2), (79, .lmul, 1), (80, .lcmp, 1), (81, .ifCond .ge 5, 3), (84, .iconst 1, 1), (85, .ireturn, 1), (86, .lload 6, 2), (88, .lload 6, 2), (90, .lmul, 1), (91, .lload 8, 2), (93, .lload 8, 2), (95, .lmul, 1), (96, .ladd, 1), (97, .lload 10, 2), (99, .lload 10, 2), (101, .lmul, 1), (102, .ladd, 1), (103, .lstore 24, 2), (105, .lload_n 0, 1), (106, .lload 6, 2), (108, .lmul, 1), (109, .lload_n 2, 1), (110, .lload 8, 2), (112, .lmul, 1), (113, .ladd, 1), (114, .lload 4, 2), (116, .lload 10, 2), (118, .lmul, 1), (119, .ladd, 1), (120, .lstore 26, 2), (122, .lload 26, 2), (124, .lconst 0, 1), (125, .lcmp, 1), (126, .ifCond .ge 33, 3), (129, .lload 26, 2), (131, .lneg, 1), (132, .lload 24, 2), (134, .lload 12, 2), (136, .lmul, 1), (137, .lcmp, 1), (138, .ifCond .ge 21, 3), (141, .lload 26, 2), (143, .lload 26, 2), (145, .lmul, 1), (146, .lload 24, 2), (148, .lload 16, 2), (150, .lmul, 1), (151, .lcmp, 1), (152, .ifCond .le 7, 3), (155, .iconst 1, 1), (156, .goto 4, 3), (159, .iconst 0, 1), (160, .ireturn, 1)]
theorem okX12_isNear : ∀ q ∈ iX12_isNear, decode cX12_isNear q.1 = .ok q.2 := by decide +kernel
def iX12_placeX : List (Nat × Instr × Nat) := [(0, .iload_n 3, 1), (1, .aload_n 0, 1), (2, .getfield 41, 3), (5, .iload_n 1, 1), (6, .iaload, 1), (7, .imul, 1), (8, .aload_n 0, 1), (9, .getfield 50, 3), (12, .iload_n 1, 1), (13, .iaload, 1), (14, .aload_n 0, 1), (15, .getfield 41, 3), (18, .iload_n 1, 1), (19, .iaload, 1), (20, .isub, 1), (21, .aload_n 0, 1), (22, .iload_n 1, 1), (23, .iload_n 2, 1), (24, .iload_n 3, 1), (25, .invokevirtual 219, 3), (28, .imul, 1), (29, .iadd, 1), (30, .ireturn, 1)]
theorem okX12_placeX : ∀ q ∈ iX12_placeX, decode cX12_placeX q.1 = .ok q.2 := by decide +kernel
def iX12_placeY : List (Nat × Instr × Nat) := [(0, .iload_n 3, 1), (1, .aload_n 0, 1), (2, .getfield 44, 3), (5, .iload_n 1, 1), (6, .iaload, 1), (7, .imul, 1), (8, .aload_n 0, 1), (9, .getfield 53, 3), (12, .iload_n 1, 1), (13, .iaload, 1), (14, .aload_n 0, 1), (15, .getfield 44, 3), (18, .iload_n 1, 1), (19, .iaload, 1), (20, .isub, 1), (21, .aload_n 0, 1), (22, .iload_n 1, 1), (23, .iload_n 2, 1), (24, .iload_n 3, 1), (25, .invokevirtual 219, 3), (28, .imul, 1), (29, .iadd, 1), (30, .ireturn, 1)]
theorem okX12_placeY : ∀ q ∈ iX12_placeY, decode cX12_placeY q.1 = .ok q.2 := by decide +kernel
def iX12_placeZ : List (Nat × Instr × Nat) := [(0, .iload_n 3, 1), (1, .aload_n 0, 1), (2, .getfield 47, 3), (5, .iload_n 1, 1), (6, .iaload, 1), (7, .imul, 1), (8, .aload_n 0, 1), (9, .getfield 56, 3), (12, .iload_n 1, 1), (13, .iaload, 1), (14, .aload_n 0, 1), (15, .getfield 47, 3), (18, .iload_n 1, 1), (19, .iaload, 1), (20, .isub, 1), (21, .aload_n 0, 1), (22, .iload_n 1, 1), (23, .iload_n 2, 1), (24, .iload_n 3, 1), (25, .invokevirtual 219, 3), (28, .imul, 1), (29, .iadd, 1), (30, .ireturn, 1)]
theorem okX12_placeZ : ∀ q ∈ iX12_placeZ, decode cX12_placeZ q.1 = .ok q.2 := by decide +kernel
def iX12_gone : List (Nat × Instr × Nat) := [(0, .iload_n 2, 1), (1, .aload_n 0, 1), (2, .getfield 59, 3), (5, .iload_n 1, 1), (6, .iaload, 1), (7, .if_icmp .ge 7, 3), (10, .iconst 0, 1), (11, .goto 27, 3), (14, .iload_n 2, 1), (15, .aload_n 0, 1), (16, .getfield 59, 3), (19, .iload_n 1, 1), (20, .iaload, 1), (21, .iload_n 3, 1), (22, .iadd, 1), (23, .if_icmp .le 7, 3), (26, .iload_n 3, 1), (27, .goto 11, 3), (30, .iload_n 2, 1), (31, .aload_n 0, 1), (32, .getfield 59, 3), (35, .iload_n 1, 1), (36, .iaload, 1), (37, .isub, 1), (38, .ireturn, 1)]
theorem okX12_gone : ∀ q ∈ iX12_gone, decode cX12_gone q.1 = .ok q.2 := by decide +kernel
def iX12_clash : List (Nat × Instr × Nat) := [(0, .iconst 0, 1), (1, .istore 4, 2), (3, .iload 4, 2), (5, .iload_n 3, 1), (6, .bipush 9, 2), (8, .iadd, 1), (9, .if_icmp .ge 179, 3), (12, .aload_n 0, 1), (13, .iload_n 1, 1), (14, .iload 4, 2), (16, .iload_n 3, 1), (17, .invokevirtual 223, 3), (20, .aload_n 0, 1), (21, .iload_n 2, 1), (22, .iload 4, 2), (24, .iload_n 3, 1), (25, .invokevirtual 223, 3), (28, .isub, 1), (29, .istore 5, 2), (31, .aload_n 0, 1), (32, .iload_n 1, 1), (33, .iload 4, 2), (35, .iload_n 3, 1), (36, .invokevirtual 226, 3), (39, .aload_n 0, 1), (40, .iload_n 2, 1), (41, .iload 4, 2), (43, .iload_n 3, 1), (44, .invokevirtual 226, 3), (47, .isub, 1), (48, .istore 6, 2), (50, .aload_n 0, 1), (51, .iload_n 1, 1), (52, .iload 4, 2), (54, .iload_n 3, 1), (55, .invokevirtual 229, 3), (58, .aload_n 0, 1), (59, .iload_n 2, 1), (60, .iload 4, 2), (62, .iload_n 3, 1), (63, .invokevirtual 229, 3), (66, .isub, 1), (67, .istore 7, 2), (69, .aload_n 0, 1), (70, .iload_n 1, 1), (71, .iload 4, 2), (73, .iconst 1, 1), (74, .iadd, 1), (75, .iload_n 3, 1), (76, .invokevirtual 223, 3), (79, .aload_n 0, 1), (80, .iload_n 2, 1), (81, .iload 4, 2), (83, .iconst 1, 1), (84, .iadd, 1), (85, .iload_n 3, 1), (86, .invokevirtual 223, 3), (89, .isub, 1), (90, .iload 5, 2), (92, .isub, 1), (93, .istore 8, 2), (95, .aload_n 0, 1), (96, .iload_n 1, 1), (97, .iload 4, 2), (99, .iconst 1, 1), (100, .iadd, 1), (101, .iload_n 3, 1), (102, .invokevirtual 226, 3), (105, .aload_n 0, 1), (106, .iload_n 2, 1), (107, .iload 4, 2), (109, .iconst 1, 1), (110, .iadd, 1), (111, .iload_n 3, 1), (112, .invokevirtual 226, 3), (115, .isub, 1), (116, .iload 6, 2), (118, .isub, 1), (119, .istore 9, 2), (121, .aload_n 0, 1), (122, .iload_n 1, 1), (123, .iload 4, 2), (125, .iconst 1, 1), (126, .iadd, 1), (127, .iload_n 3, 1), (128, .invokevirtual 229, 3), (131, .aload_n 0, 1), (132, .iload_n 2, 1), (133, .iload 4, 2), (135, .iconst 1, 1), (136, .iadd, 1), (137, .iload_n 3, 1), (138, .invokevirtual 229, 3), (141, .isub, 1), (142, .iload 7, 2), (144, .isub, 1), (145, .istore 10, 2), (147, .iload 5, 2), (149, .i2l, 1), (150, .iload 6, 2), (152, .i2l, 1), (153, .iload 7, 2), (155, .i2l, 1), (156, .iload 8, 2), (158, .i2l, 1), (159, .iload 9, 2), (161, .i2l, 1), (162, .iload 10, 2), (164, .i2l, 1), (165, .lconst 1, 1), (166, .aload_n 0, 1), (167, .getfield 34, 3), (170, .i2l, 1), (171, .iload_n 3, 1), (172, .i2l, 1), (173, .lmul, 1), (174, .invokestatic 232, 3), (177, .ifCond .eq 5, 3), (180, .iconst 1, 1), (181, .ireturn, 1), (182, .iinc 4 1, 3), (185, .goto (-182), 3), (188, .iconst 0, 1), (189, .ireturn, 1)]
theorem okX12_clash : ∀ q ∈ iX12_clash, decode cX12_clash q.1 = .ok q.2 := by decide +kernel
def iX12_enters : List (Nat × Instr × Nat) := [(0, .iconst 0, 1), (1, .istore_n 3, 1), (2, .iload_n 3, 1), (3, .iload_n 2, 1), (4, .bipush 9, 2), (6, .iadd, 1), (7, .if_icmp .ge 121, 3), (10, .aload_n 0, 1), (11, .getfield 216, 3), (14, .ifCond .le 114, 3), (17, .aload_n 0, 1), (18, .iload_n 1, 1), (19, .iload_n 3, 1), (20, .iload_n 2, 1), (21, .invokevirtual 223, 3), (24, .iload_n 2, 1), (25, .aload_n 0, 1), (26, .getfield 210, 3), (29, .imul, 1), (30, .isub, 1), (31, .istore 4, 2), (33, .aload_n 0, 1), (34, .iload_n 1, 1), (35, .iload_n 3, 1), (36, .iload_n 2, 1), (37, .invokevirtual 226, 3), (40, .iload_n 2, 1), (41, .aload_n 0, 1), (42, .getfield 213, 3), (45, .imul, 1), (46, .isub, 1), (47, .istore 5, 2), (49, .aload_n 0, 1), (50, .iload_n 1, 1), (51, .iload_n 3, 1), (52, .iconst 1, 1), (53, .iadd, 1), (54, .iload_n 2, 1), (55, .invokevirtual 223, 3), (58, .iload_n 2, 1), (59, .aload_n 0, 1), (60, .getfield 210, 3), (63, .imul, 1), (64, .isub, 1), (65, .iload 4, 2), (67, .isub, 1), (68, .istore 6, 2), (70, .aload_n 0, 1), (71, .iload_n 1, 1), (72, .iload_n 3, 1), (73, .iconst 1, 1), (74, .iadd, 1), (75, .iload_n 2, 1), (76, .invokevirtual 226, 3), (79, .iload_n 2, 1), (80, .aload_n 0, 1), (81, .getfield 213, 3), (84, .imul, 1), (85, .isub, 1), (86, .iload 5, 2), (88, .isub, 1), (89, .istore 7, 2), (91, .iload 4, 2), (93, .i2l, 1), (94, .iload 5, 2), (96, .i2l, 1), (97, .lconst 0, 1), (98, .iload 6, 2), (100, .i2l, 1), (101, .iload 7, 2), (103, .i2l, 1), (104, .lconst 0, 1), (105, .lconst 1, 1), (106, .aload_n 0, 1), (107, .getfield 216, 3), (110, .i2l, 1), (111, .iload_n 2, 1), (112, .i2l, 1), (113, .lmul, 1), (114, .invokestatic 232, 3), (117, .ifCond .eq 5, 3), (120, .iconst 1, 1), (121, .ireturn, 1), (122, .iinc 3 1, 3), (125, .goto (-123), 3), (128, .iconst 0, 1), (129, .ireturn, 1)]
theorem okX12_enters : ∀ q ∈ iX12_enters, decode cX12_enters q.1 = .ok q.2 := by decide +kernel
def iX12_isClean : List (Nat × Instr × Nat) := [(0, .bipush 10, 2), (2, .iload_n 1, 1), (3, .imul, 1), (4, .istore_n 2, 1), (5, .iload_n 2, 1), (6, .bipush 10, 2), (8, .iload_n 1, 1), (9, .imul, 1), (10, .aload_n 0, 1), (11, .getfield 65, 3), (14, .iload_n 1, 1), (15, .iaload, 1), (16, .iadd, 1), (17, .if_icmp .ge 58, 3), (20, .aload_n 0, 1), (21, .iload_n 2, 1), (22, .aload_n 0, 1), (23, .getfield 62, 3), (26, .iload_n 1, 1), (27, .iaload, 1), (28, .invokevirtual 236, 3), (31, .ifCond .eq 5, 3), (34, .iconst 0, 1), (35, .ireturn, 1), (36, .bipush 10, 2), (38, .iload_n 1, 1), (39, .imul, 1), (40, .istore_n 3, 1), (41, .iload_n 3, 1), (42, .iload_n 2, 1), (43, .if_icmp .ge 26, 3), (46, .aload_n 0, 1), (47, .iload_n 2, 1), (48, .iload_n 3, 1), (49, .aload_n 0, 1), (50, .getfield 62, 3), (53, .iload_n 1, 1), (54, .iaload, 1), (55, .invokevirtual 240, 3), (58, .ifCond .eq 5, 3), (61, .iconst 0, 1), (62, .ireturn, 1), (63, .iinc 3 1, 3), (66, .goto (-25), 3), (69, .iinc 2 1, 3), (72, .goto (-67), 3), (75, .iconst 1, 1), (76, .ireturn, 1)]
theorem okX12_isClean : ∀ q ∈ iX12_isClean, decode cX12_isClean q.1 = .ok q.2 := by decide +kernel
def iX12_begins : List (Nat × Instr × Nat) := [(0, .iload_n 3, 1), (1, .ifCond .ge 10, 3), (4, .aload_n 0, 1), (5, .getfield 140, 3), (8, .goto 9, 3), (11, .aload_n 0, 1), (12, .getfield 19, 3), (15, .iload_n 3, 1), (16, .iaload, 1), (17, .istore 5, 2), (19, .aload_n 0, 1), (20, .getfield 62, 3), (23, .iload_n 1, 1), (24, .iload 4, 2), (26, .iastore, 1), (27, .aload_n 0, 1), (28, .getfield 65, 3), (31, .iload_n 1, 1), (32, .iload 5, 2), (34, .iastore, 1), (35, .iconst 0, 1), (36, .istore 6, 2), (38, .iload 6, 2), (40, .iload 5, 2), (42, .if_icmp .ge 238, 3), (45, .aload_n 0, 1), (46, .getfield 41, 3), (49, .bipush 10, 2), (51, .iload_n 1, 1), (52, .imul, 1), (53, .iload 6, 2), (55, .iadd, 1), (56, .iload_n 2, 1), (57, .ifCond .ge 13, 3), (60, .aload_n 0, 1), (61, .getfield 7, 3), (64, .iload 6, 2), (66, .iaload, 1), (67, .goto 15, 3), (70, .aload_n 0, 1), (71, .getfield 22, 3), (74, .bipush 10, 2), (76, .iload_n 2, 1), (77, .imul, 1), (78, .iload 6, 2), (80, .iadd, 1), (81, .iaload, 1), (82, .iastore, 1), (83, .aload_n 0, 1), (84, .getfield 44, 3), (87, .bipush 10, 2), (89, .iload_n 1, 1), (90, .imul, 1), (91, .iload 6, 2), (93, .iadd, 1), (94, .iload_n 2, 1), (95, .ifCond .ge 13, 3), (98, .aload_n 0, 1), (99, .getfield 13, 3), (102, .iload 6, 2), (104, .iaload, 1), (105, .goto 15, 3), (108, .aload_n 0, 1), (109, .getfield 25, 3), (112, .bipush 10, 2), (114, .iload_n 2, 1), (115, .imul, 1), (116, .iload 6, 2), (118, .iadd, 1), (119, .iaload, 1), (120, .iastore, 1), (121, .aload_n 0, 1), (122, .getfield 47, 3), (125, .bipush 10, 2), (127, .iload_n 1, 1), (128, .imul, 1), (129, .iload 6, 2), (131, .iadd, 1), (132, .iload_n 2, 1), (133, .ifCond .ge 7, 3), (136, .iconst 0, 1), (137, .goto 15, 3), (140, .aload_n 0, 1), (141, .getfield 28, 3), (144, .bipush 10, 2), (146, .iload_n 2, 1), (147, .imul, 1), (148, .iload 6, 2), (150, .iadd, 1), (151, .iaload, 1), (152, .iastore, 1), (153, .aload_n 0, 1), (154, .getfield 50, 3), (157, .bipush 10, 2), (159, .iload_n 1, 1), (160, .imul, 1), (161, .iload 6, 2), (163, .iadd, 1), (164, .iload_n 3, 1), (165, .ifCond .ge 13, 3), (168, .aload_n 0, 1), (169, .getfield 7, 3), (172, .iload 6, 2), (174, .iaload, 1), (175, .goto 15, 3), (178, .aload_n 0, 1), (179, .getfield 22, 3), (182, .bipush 10, 2), (184, .iload_n 3, 1), (185, .imul, 1), (186, .iload 6, 2), (188, .iadd, 1), (189, .iaload, 1), (190, .iastore, 1), (191, .aload_n 0, 1), (192, .getfield 53, 3), (195, .bipush 10, 2), (197, .iload_n 1, 1), (198, .imul, 1), (199, .iload 6, 2), (201, .iadd, 1), (202, .iload_n 3, 1), (203, .ifCond .ge 13, 3), (206, .aload_n 0, 1), (207, .getfield 13, 3), (210, .iload 6, 2), (212, .iaload, 1), (213, .goto 15, 3), (216, .aload_n 0, 1), (217, .getfield 25, 3), (220, .bipush 10, 2), (222, .iload_n 3, 1), (223, .imul, 1), (224, .iload 6, 2), (226, .iadd, 1), (227, .iaload, 1), (228, .iastore, 1), (229, .aload_n 0, 1), (230, .getfield 56, 3), (233, .bipush 10, 2), (235, .iload_n 1, 1), (236, .imul, 1), (237, .iload 6, 2), (239, .iadd, 1), (240, .iload_n 3, 1), (241, .ifCond .ge 7, 3), (244, .iconst 0, 1), (245, .goto 15, 3), (248, .aload_n 0, 1), (249, .getfield 28, 3), (252, .bipush 10, 2), (254, .iload_n 3, 1), (255, .imul, 1), (256, .iload 6, 2), (258, .iadd, 1), (259, .iaload, 1), (260, .iastore, 1), (261, .aload_n 0, 1), (262, .getfield 59, 3), (265, .bipush 10, 2), (267, .iload_n 1, 1), (268, .imul, 1), (269, .iload 6, 2), (271, .iadd, 1), (272, .iconst 0, 1), (273, .iastore, 1), (274, .iinc 6 1, 3), (277, .goto (-239), 3), (280, .return_, 1)]
theorem okX12_begins : ∀ q ∈ iX12_begins, decode cX12_begins q.1 = .ok q.2 := by decide +kernel
def iX12_greater : List (Nat × Instr × Nat) := [(0, .iload_n 0, 1), (1, .iload_n 1, 1), (2, .if_icmp .le 7, 3), (5, .iload_n 0, 1), (6, .goto 4, 3), (9, .iload_n 1, 1), (10, .ireturn, 1)]
theorem okX12_greater : ∀ q ∈ iX12_greater, decode cX12_greater q.1 = .ok q.2 := by decide +kernel
def iX12_bits : List (Nat × Instr × Nat) := [(0, .iconst 0, 1), (1, .istore_n 1, 1), (2, .iconst 0, 1), (3, .istore_n 2, 1), (4, .iload_n 2, 1), (5, .bipush 10, 2), (7, .if_icmp .ge 17, 3), (10, .iload_n 1, 1), (11, .iload_n 0, 1), (12, .iload_n 2, 1), (13, .ishr, 1), (14, .iconst 1, 1), (15, .iand, 1), (16, .iadd, 1), (17, .istore_n 1, 1), (18, .iinc 2 1, 3), (21, .goto (-17), 3), (24, .iload_n 1, 1), (25, .ireturn, 1)]
theorem okX12_bits : ∀ q ∈ iX12_bits, decode cX12_bits q.1 = .ok q.2 := by decide +kernel
def iX12_assigns : List (Nat × Instr × Nat) := [(0, .aload_n 0, 1), (1, .getfield 65, 3), (4, .iload_n 1, 1), (5, .iaload, 1), (6, .istore_n 2, 1), (7, .iconst 0, 1), (8, .istore_n 3, 1), (9, .iload_n 3, 1), (10, .iload_n 2, 1), (11, .if_icmp .ge 119, 3), (14, .iconst 0, 1), (15, .istore 4, 2), (17, .iload 4, 2), (19, .iload_n 2, 1), (20, .if_icmp .ge 104, 3), (23, .aload_n 0, 1), (24, .getfield 71, 3), (27, .bipush 10, 2), (29, .iload_n 3, 1), (30, .imul, 1), (31, .iload 4, 2), (33, .iadd, 1), (34, .aload_n 0, 1), (35, .getfield 41, 3), (38, .bipush 10, 2), (40, .iload_n 1, 1), (41, .imul, 1), (42, .iload_n 3, 1), (43, .iadd, 1), (44, .iaload, 1), (45, .aload_n 0, 1), (46, .getfield 50, 3), (49, .bipush 10, 2), (51, .iload_n 1, 1), (52, .imul, 1), (53, .iload 4, 2), (55, .iadd, 1), (56, .iaload, 1), (57, .isub, 1), (58, .invokestatic 192, 3), (61, .aload_n 0, 1), (62, .getfield 44, 3), (65, .bipush 10, 2), (67, .iload_n 1, 1), (68, .imul, 1), (69, .iload_n 3, 1), (70, .iadd, 1), (71, .iaload, 1), (72, .aload_n 0, 1), (73, .getfield 53, 3), (76, .bipush 10, 2), (78, .iload_n 1, 1), (79, .imul, 1), (80, .iload 4, 2), (82, .iadd, 1), (83, .iaload, 1), (84, .isub, 1), (85, .invokestatic 192, 3), (88, .iadd, 1), (89, .aload_n 0, 1), (90, .getfield 47, 3), (93, .bipush 10, 2), (95, .iload_n 1, 1), (96, .imul, 1), (97, .iload_n 3, 1), (98, .iadd, 1), (99, .iaload, 1), (100, .aload_n 0, 1), (101, .getfield 56, 3), (104, .bipush 10, 2), (106, .iload_n 1, 1), (107, .imul, 1), (108, .iload 4, 2), (110, .iadd, 1), (111, .iaload, 1), (112, .isub, 1), (113, .invokestatic 192, 3), (116, .iadd, 1), (117, .iastore, 1), (118, .iinc 4 1, 3), (121, .goto (-104), 3), (124, .iinc 3 1, 3), (127, .goto (-118), 3), (130, .iconst 1, 1), (131, .iload_n 2, 1), (132, .ishl, 1), (133, .iconst 1, 1), (134, .isub, 1), (135, .istore_n 3, 1), (136, .iload_n 3, 1), (137, .ifCond .lt 115, 3), (140, .iload_n 3, 1), (141, .invokestatic 244, 3), (144, .istore 4, 2), (146, .aload_n 0, 1), (147, .getfield 74, 3), (150, .iload_n 3, 1), (151, .iload 4, 2), (153, .iload_n 2, 1), (154, .if_icmp .ne 7, 3), (157, .iconst 0, 1), (158, .goto 5, 3), (161, .ldc 247, 2), (163, .iastore, 1), (164, .iconst 0, 1), (165, .istore 5, 2), (167, .iload 5, 2), (169, .iload_n 2, 1), (170, .if_icmp .ge 76, 3), (173, .iload 4, 2), (175, .iload_n 2, 1), (176, .if_icmp .ge 70, 3), (179, .iload_n 3, 1), (180, .iload 5, 2), (182, .ishr, 1), (183, .iconst 1, 1), (184, .iand, 1), (185, .iconst 1, 1), (186, .if_icmp .ne 6, 3), (189, .goto 51, 3), (192, .aload_n 0, 1), (193, .getfield 71, 3), (196, .bipush 10, 2), (198, .iload 4, 2), (200, .imul, 1), (201, .iload 5, 2), (203, .iadd, 1), (204, .iaload, 1), (205, .aload_n 0, 1), (206, .getfield 74, 3), (209, .iload_n 3, 1), (210, .iconst 1, 1), (211, .iload 5, 2), (213, .ishl, 1), (214, .ior, 1), (215, .iaload, 1), (216, .invokestatic 248, 3), (219, .istore 6, 2), (221, .iload 6, 2), (223, .aload_n 0, 1), (224, .getfield 74, 3), (227, .iload_n 3, 1), (228, .iaload, 1), (229, .if_icmp .ge 11, 3), (232, .aload_n 0, 1), (233, .getfield 74, 3), (236, .iload_n 3, 1), (237, .iload 6, 2), (239, .iastore, 1), (240, .iinc 5 1, 3), (243, .goto (-76), 3), (246, .iinc 3 (-1), 3), (249, .goto (-113), 3), (252, .iconst 0, 1), (253, .istore_n 3, 1), (254, .iconst 0, 1), (255, .istore 4, 2), (257, .iload 4, 2), (259, .iload_n 2, 1), (260, .if_icmp .ge 86, 3), (263, .iconst 0, 1), (264, .istore 5, 2), (266, .iload_n 3, 1), (267, .iload 5, 2), (269, .ishr, 1), (270, .iconst 1, 1), (271, .iand, 1), (272, .iconst 1, 1), (273, .if_icmp .eq 45, 3), (276, .aload_n 0, 1), (277, .getfield 71, 3), (280, .bipush 10, 2), (282, .iload 4, 2), (284, .imul, 1), (285, .iload 5, 2), (287, .iadd, 1), (288, .iaload, 1), (289, .aload_n 0, 1), (290, .getfield 74, 3), (293, .iconst 0, 1), (294, .iaload, 1), (295, .if_icmp .gt 23, 3), (298, .aload_n 0, 1), (299, .getfield 74, 3), (302, .iload_n 3, 1), (303, .iconst 1, 1), (304, .iload 5, 2), (306, .ishl, 1), (307, .ior, 1), (308, .iaload, 1), (309, .aload_n 0, 1), (310, .getfield 74, 3), (313, .iconst 0, 1), (314, .iaload, 1), (315, .if_icmp .le 9, 3), (318, .iinc 5 1, 3), (321, .goto (-55), 3), (324, .aload_n 0, 1), (325, .getfield 77, 3), (328, .iload 4, 2), (330, .iload 5, 2), (332, .iastore, 1), (333, .iload_n 3, 1), (334, .iconst 1, 1), (335, .iload 5, 2), (337, .ishl, 1), (338, .ior, 1), (339, .istore_n 3, 1), (340, .iinc 4 1, 3), (343, .goto (-86), 3), (346, .iconst 0, 1), (347, .istore 4, 2), (349, .iload 4, 2), (351, .iload_n 2, 1), (352, .if_icmp .ge 66, 3), (355, .aload_n 0, 1), (356, .getfield 80, 3), (359, .iload 4, 2), (361, .aload_n 0, 1), (362, .getfield 50, 3), (365, .bipush 10, 2), (367, .iload_n 1, 1), (368, .imul, 1), (369, .iload 4, 2), (371, .iadd, 1), (372, .iaload, 1), (373, .iastore, 1), (374, .aload_n 0, 1), (375, .getfield 83, 3), (378, .iload 4, 2), (380, .aload_n 0, 1), (381, .getfield 53, 3), (384, .bipush 10, 2), (386, .iload_n 1, 1), (387, .imul, 1), (388, .iload 4, 2), (390, .iadd, 1), (391, .iaload, 1), (392, .iastore, 1), (393, .aload_n 0, 1), (394, .getfield 86, 3), (397, .iload 4, 2), (399, .aload_n 0, 1), (400, .getfield 56, 3), (403, .bipush 10, 2), (405, .iload_n 1, 1), (406, .imul, 1), (407, .iload 4, 2), (409, .iadd, 1), (410, .iaload, 1), (411, .iastore, 1), (412, .iinc 4 1, 3), (415, .goto (-66), 3), (418, .iconst 0, 1), (419, .istore 4, 2), (421, .iload 4, 2), (423, .iload_n 2, 1), (424, .if_icmp .ge 81, 3), (427, .aload_n 0, 1), (428, .getfield 50, 3), (431, .bipush 10, 2), (433, .iload_n 1, 1), (434, .imul, 1), (435, .iload 4, 2), (437, .iadd, 1), (438, .aload_n 0, 1), (439, .getfield 80, 3), (442, .aload_n 0, 1), (443, .getfield 77, 3), (446, .iload 4, 2), (448, .iaload, 1), (449, .iaload, 1), (450, .iastore, 1), (451, .aload_n 0, 1), (452, .getfield 53, 3), (455, .bipush 10, 2), (457, .iload_n 1, 1), (458, .imul, 1), (459, .iload 4, 2), (461, .iadd, 1), (462, .aload_n 0, 1), (463, .getfield 83, 3), (466, .aload_n 0, 1), (467, .getfield 77, 3), (470, .iload 4, 2), (472, .iaload, 1), (473, .iaload, 1), (474, .iastore, 1), (475, .aload_n 0, 1), (476, .getfield 56, 3), (479, .bipush 10, 2), (481, .iload_n 1, 1), (482, .imul, 1), (483, .iload 4, 2), (485, .iadd, 1), (486, .aload_n 0, 1), (487, .getfield 86, 3), (490, .aload_n 0, 1), (491, .getfield 77, 3), (494, .iload 4, 2), (496, .iaload, 1), (497, .iaload, 1), (498, .iastore, 1), (499, .iinc 4 1, 3), (502, .goto (-81), 3), (505, .aload_n 0, 1), (506, .getfield 74, 3), (509, .iconst 0, 1), (510, .iaload, 1), (511, .ireturn, 1)]
theorem okX12_assigns : ∀ q ∈ iX12_assigns, decode cX12_assigns q.1 = .ok q.2 := by decide +kernel
def iX12_pass : List (Nat × Instr × Nat) := [(0, .iload_n 1, 1), (1, .iconst (-1), 1), (2, .if_icmp .eq 11, 3), (5, .aload_n 0, 1), (6, .iload_n 1, 1), (7, .invokevirtual 200, 3), (10, .ifCond .eq 16, 3), (13, .iload_n 2, 1), (14, .iconst (-1), 1), (15, .if_icmp .eq 13, 3), (18, .aload_n 0, 1), (19, .iload_n 2, 1), (20, .invokevirtual 200, 3), (23, .ifCond .ne 5, 3), (26, .iconst (-1), 1), (27, .ireturn, 1), (28, .iload_n 3, 1), (29, .i2l, 1), (30, .lconst 1, 1), (31, .ldc2_w 251, 3), (34, .invokestatic 150, 3), (37, .ifCond .ne 6, 3), (40, .bipush (-2), 2), (42, .ireturn, 1), (43, .iload_n 1, 1), (44, .ifCond .ge 10, 3), (47, .aload_n 0, 1), (48, .getfield 140, 3), (51, .goto 9, 3), (54, .aload_n 0, 1), (55, .getfield 19, 3), (58, .iload_n 1, 1), (59, .iaload, 1), (60, .istore 4, 2), (62, .iload 4, 2), (64, .ifCond .eq 25, 3), (67, .iload 4, 2), (69, .iload_n 2, 1), (70, .ifCond .ge 10, 3), (73, .aload_n 0, 1), (74, .getfield 140, 3), (77, .goto 9, 3), (80, .aload_n 0, 1), (81, .getfield 19, 3), (84, .iload_n 2, 1), (85, .iaload, 1), (86, .if_icmp .eq 6, 3), (89, .bipush (-3), 2), (91, .ireturn, 1), (92, .aload_n 0, 1), (93, .iconst 0, 1), (94, .iload_n 1, 1), (95, .iload_n 2, 1), (96, .iload_n 3, 1), (97, .invokevirtual 253, 3), (100, .aload_n 0, 1), (101, .iconst 0, 1), (102, .invokevirtual 257, 3), (105, .istore 5, 2), (107, .iconst 0, 1), (108, .istore 6, 2), (110, .iload 6, 2), (112, .iload 4, 2), (114, .if_icmp .ge 23, 3), (117, .aload_n 0, 1), (118, .getfield 68, 3), (121, .iload 6, 2), (123, .aload_n 0, 1), (124, .getfield 77, 3), (127, .iload 6, 2), (129, .iaload, 1), (130, .iastore, 1), (131, .iinc 6 1, 3), (134, .goto (-24), 3), (137, .iload 5, 2), (139, .ireturn, 1)]
theorem okX12_pass : ∀ q ∈ iX12_pass, decode cX12_pass q.1 = .ok q.2 := by decide +kernel
def iX12_isOfPass : List (Nat × Instr × Nat) := [(0, .iload_n 1, 1), (1, .ifCond .lt 17, 3), (4, .iload_n 1, 1), (5, .aload_n 0, 1), (6, .getfield 65, 3), (9, .iconst 0, 1), (10, .iaload, 1), (11, .if_icmp .ge 7, 3), (14, .iconst 1, 1), (15, .goto 4, 3), (18, .iconst 0, 1), (19, .ireturn, 1)]
theorem okX12_isOfPass : ∀ q ∈ iX12_isOfPass, decode cX12_isOfPass q.1 = .ok q.2 := by decide +kernel
def iX12_goes : List (Nat × Instr × Nat) := [(0, .aload_n 0, 1), (1, .iload_n 1, 1), (2, .invokevirtual 260, 3), (5, .ifCond .eq 12, 3), (8, .aload_n 0, 1), (9, .getfield 68, 3), (12, .iload_n 1, 1), (13, .iaload, 1), (14, .goto 4, 3), (17, .iconst (-1), 1), (18, .ireturn, 1)]
theorem okX12_goes : ∀ q ∈ iX12_goes, decode cX12_goes q.1 = .ok q.2 := by decide +kernel
def iX12_delay : List (Nat × Instr × Nat) := [(0, .aload_n 0, 1), (1, .iload_n 1, 1), (2, .invokevirtual 260, 3), (5, .ifCond .ne 5, 3), (8, .iconst (-1), 1), (9, .ireturn, 1), (10, .iload_n 2, 1), (11, .i2l, 1), (12, .lconst 0, 1), (13, .ldc2_w 263, 3), (16, .invokestatic 150, 3), (19, .ifCond .ne 6, 3), (22, .bipush (-2), 2), (24, .ireturn, 1), (25, .aload_n 0, 1), (26, .getfield 59, 3), (29, .iload_n 1, 1), (30, .iaload, 1), (31, .istore_n 3, 1), (32, .aload_n 0, 1), (33, .getfield 59, 3), (36, .iload_n 1, 1), (37, .iload_n 2, 1), (38, .iastore, 1), (39, .iload_n 3, 1), (40, .ireturn, 1)]
theorem okX12_delay : ∀ q ∈ iX12_delay, decode cX12_delay q.1 = .ok q.2 := by decide +kernel
def iX12_clash_ : List (Nat × Instr × Nat) := [(0, .aload_n 0, 1), (1, .iload_n 1, 1), (2, .invokevirtual 260, 3), (5, .ifCond .eq 11, 3), (8, .aload_n 0, 1), (9, .iload_n 2, 1), (10, .invokevirtual 260, 3), (13, .ifCond .ne 5, 3), (16, .iconst (-1), 1), (17, .ireturn, 1), (18, .iload_n 1, 1), (19, .iload_n 2, 1), (20, .if_icmp .ne 6, 3), (23, .bipush (-2), 2), (25, .ireturn, 1), (26, .aload_n 0, 1), (27, .iload_n 1, 1), (28, .iload_n 2, 1), (29, .aload_n 0, 1), (30, .getfield 62, 3), (33, .iconst 0, 1), (34, .iaload, 1), (35, .invokevirtual 240, 3), (38, .ifCond .eq 7, 3), (41, .iconst 1, 1), (42, .goto 4, 3), (45, .iconst 0, 1), (46, .ireturn, 1)]
theorem okX12_clash_ : ∀ q ∈ iX12_clash_, decode cX12_clash_ q.1 = .ok q.2 := by decide +kernel
def iX12_enters_ : List (Nat × Instr × Nat) := [(0, .aload_n 0, 1), (1, .iload_n 1, 1), (2, .invokevirtual 260, 3), (5, .ifCond .ne 7, 3), (8, .iconst (-1), 1), (9, .goto 22, 3), (12, .aload_n 0, 1), (13, .iload_n 1, 1), (14, .aload_n 0, 1), (15, .getfield 62, 3), (18, .iconst 0, 1), (19, .iaload, 1), (20, .invokevirtual 236, 3), (23, .ifCond .eq 7, 3), (26, .iconst 1, 1), (27, .goto 4, 3), (30, .iconst 0, 1), (31, .ireturn, 1)]
theorem okX12_enters_ : ∀ q ∈ iX12_enters_, decode cX12_enters_ q.1 = .ok q.2 := by decide +kernel
def iX12_clean : List (Nat × Instr × Nat) := [(0, .aload_n 0, 1), (1, .getfield 65, 3), (4, .iconst 0, 1), (5, .iaload, 1), (6, .ifCond .ne 8, 3), (9, .bipush (-3), 2), (11, .goto 16, 3), (14, .aload_n 0, 1), (15, .iconst 0, 1), (16, .invokevirtual 265, 3), (19, .ifCond .eq 7, 3), (22, .iconst 1, 1), (23, .goto 4, 3), (26, .iconst 0, 1), (27, .ireturn, 1)]
theorem okX12_clean : ∀ q ∈ iX12_clean, decode cX12_clean q.1 = .ok q.2 := by decide +kernel
def iX12_waits : List (Nat × Instr × Nat) := [(0, .iload_n 1, 1), (1, .istore_n 3, 1), (2, .iload_n 2, 1), (3, .iconst 1, 1), (4, .isub, 1), (5, .istore 4, 2), (7, .iload 4, 2), (9, .ifCond .lt 23, 3), (12, .aload_n 0, 1), (13, .getfield 59, 3), (16, .iload 4, 2), (18, .iload_n 3, 1), (19, .iconst 3, 1), (20, .iand, 1), (21, .iastore, 1), (22, .iload_n 3, 1), (23, .iconst 2, 1), (24, .ishr, 1), (25, .istore_n 3, 1), (26, .iinc 4 (-1), 3), (29, .goto (-22), 3), (32, .return_, 1)]
theorem okX12_waits : ∀ q ∈ iX12_waits, decode cX12_waits q.1 = .ok q.2 := by decide +kernel
def iX12_sumOf : List (Nat × Instr × Nat) := [(0, .iconst 0, 1), (1, .istore_n 1, 1), (2, .iload_n 0, 1), (3, .istore_n 2, 1), (4, .iload_n 2, 1), (5, .ifCond .le 16, 3), (8, .iload_n 1, 1), (9, .iload_n 2, 1), (10, .iconst 3, 1), (11, .iand, 1), (12, .iadd, 1), (13, .istore_n 1, 1), (14, .iload_n 2, 1), (15, .iconst 2, 1), (16, .ishr, 1), (17, .istore_n 2, 1), (18, .goto (-14), 3), (21, .iload_n 1, 1), (22, .ireturn, 1)]
theorem okX12_sumOf : ∀ q ∈ iX12_sumOf, decode cX12_sumOf q.1 = .ok q.2 := by decide +kernel
def iX12_part : List (Nat × Instr × Nat) := [(0, .aload_n 0, 1), (1, .getfield 65, 3), (4, .iconst 0, 1), (5, .iaload, 1), (6, .ifCond .ne 6, 3), (9, .bipush (-3), 2), (11, .ireturn, 1), (12, .iconst 0, 1), (13, .istore_n 1, 1), (14, .iload_n 1, 1), (15, .bipush 10, 2), (17, .if_icmp .ge 28, 3), (20, .aload_n 0, 1), (21, .getfield 89, 3), (24, .iload_n 1, 1), (25, .aload_n 0, 1), (26, .getfield 59, 3), (29, .iload_n 1, 1), (30, .iaload, 1), (31, .iastore, 1), (32, .aload_n 0, 1), (33, .getfield 59, 3), (36, .iload_n 1, 1), (37, .iconst 0, 1), (38, .iastore, 1), (39, .iinc 1 1, 3), (42, .goto (-28), 3), (45, .aload_n 0, 1), (46, .getfield 65, 3), (49, .iconst 0, 1), (50, .iaload, 1), (51, .bipush 6, 2), (53, .if_icmp .ge 12, 3), (56, .aload_n 0, 1), (57, .getfield 65, 3), (60, .iconst 0, 1), (61, .iaload, 1), (62, .goto 5, 3), (65, .bipush 6, 2), (67, .istore_n 1, 1), (68, .iconst 0, 1), (69, .istore_n 2, 1), (70, .iload_n 2, 1), (71, .bipush 18, 2), (73, .if_icmp .gt 53, 3), (76, .iconst 0, 1), (77, .istore_n 3, 1), (78, .iload_n 3, 1), (79, .iconst 1, 1), (80, .iconst 2, 1), (81, .iload_n 1, 1), (82, .imul, 1), (83, .ishl, 1), (84, .if_icmp .ge 36, 3), (87, .iload_n 3, 1), (88, .invokestatic 268, 3), (91, .iload_n 2, 1), (92, .if_icmp .eq 6, 3), (95, .goto 19, 3), (98, .aload_n 0, 1), (99, .iload_n 3, 1), (100, .iload_n 1, 1), (101, .invokevirtual 271, 3), (104, .aload_n 0, 1), (105, .iconst 0, 1), (106, .invokevirtual 265, 3), (109, .ifCond .eq 5, 3), (112, .iload_n 2, 1), (113, .ireturn, 1), (114, .iinc 3 1, 3), (117, .goto (-39), 3), (120, .iinc 2 1, 3), (123, .goto (-53), 3), (126, .iconst 0, 1), (127, .istore_n 2, 1), (128, .iload_n 2, 1), (129, .bipush 10, 2), (131, .if_icmp .ge 21, 3), (134, .aload_n 0, 1), (135, .getfield 59, 3), (138, .iload_n 2, 1), (139, .aload_n 0, 1), (140, .getfield 89, 3), (143, .iload_n 2, 1), (144, .iaload, 1), (145, .iastore, 1), (146, .iinc 2 1, 3), (149, .goto (-21), 3), (152, .bipush (-3), 2), (154, .ireturn, 1)]
theorem okX12_part : ∀ q ∈ iX12_part, decode cX12_part q.1 = .ok q.2 := by decide +kernel
def iX12_looksAt : List (Nat × Instr × Nat) := [(0, .iload_n 1, 1), (1, .aload_n 0, 1), (2, .getfield 156, 3), (5, .if_icmp .ne 7, 3), (8, .iconst 1, 1), (9, .goto 4, 3), (12, .iconst 0, 1), (13, .istore_n 2, 1), (14, .aload_n 0, 1), (15, .iconst 1, 1), (16, .iload_n 1, 1), (17, .ifCond .ne 7, 3), (20, .iconst (-1), 1), (21, .goto 11, 3), (24, .aload_n 0, 1), (25, .getfield 92, 3), (28, .iload_n 1, 1), (29, .iconst 1, 1), (30, .isub, 1), (31, .iaload, 1), (32, .iload_n 2, 1), (33, .ifCond .eq 7, 3), (36, .iconst (-1), 1), (37, .goto 9, 3), (40, .aload_n 0, 1), (41, .getfield 92, 3), (44, .iload_n 1, 1), (45, .iaload, 1), (46, .iload_n 2, 1), (47, .ifCond .eq 14, 3), (50, .aload_n 0, 1), (51, .getfield 95, 3), (54, .iload_n 1, 1), (55, .iconst 1, 1), (56, .isub, 1), (57, .iaload, 1), (58, .goto 9, 3), (61, .aload_n 0, 1), (62, .getfield 95, 3), (65, .iload_n 1, 1), (66, .iaload, 1), (67, .invokevirtual 253, 3), (70, .aload_n 0, 1), (71, .iconst 1, 1), (72, .invokevirtual 257, 3), (75, .istore_n 3, 1), (76, .return_, 1)]
theorem okX12_looksAt : ∀ q ∈ iX12_looksAt, decode cX12_looksAt q.1 = .ok q.2 := by decide +kernel
def iX12_pointAhead : List (Nat × Instr × Nat) := [(0, .iload_n 2, 1), (1, .ifCond .ne 7, 3), (4, .iload_n 1, 1), (5, .goto 16, 3), (8, .aload_n 0, 1), (9, .getfield 104, 3), (12, .bipush 10, 2), (14, .iload_n 2, 1), (15, .iconst 1, 1), (16, .isub, 1), (17, .imul, 1), (18, .iload_n 1, 1), (19, .iadd, 1), (20, .iaload, 1), (21, .ireturn, 1)]
theorem okX12_pointAhead : ∀ q ∈ iX12_pointAhead, decode cX12_pointAhead q.1 = .ok q.2 := by decide +kernel
def iX12_scene : List (Nat × Instr × Nat) := [(0, .aload_n 0, 1), (1, .iload_n 1, 1), (2, .invokevirtual 200, 3), (5, .ifCond .ne 5, 3), (8, .iconst (-1), 1), (9, .ireturn, 1), (10, .iload_n 2, 1), (11, .i2l, 1), (12, .lconst 1, 1), (13, .ldc2_w 251, 3), (16, .invokestatic 150, 3), (19, .ifCond .eq 28, 3), (22, .iload_n 3, 1), (23, .i2l, 1), (24, .lconst 0, 1), (25, .ldc2_w 208, 3), (28, .invokestatic 150, 3), (31, .ifCond .eq 16, 3), (34, .iload 4, 2), (36, .i2l, 1), (37, .lconst 0, 1), (38, .ldc2_w 164, 3), (41, .invokestatic 150, 3), (44, .ifCond .ne 6, 3), (47, .bipush (-2), 2), (49, .ireturn, 1), (50, .aload_n 0, 1), (51, .getfield 19, 3), (54, .iload_n 1, 1), (55, .iaload, 1), (56, .aload_n 0, 1), (57, .getfield 140, 3), (60, .if_icmp .eq 6, 3), (63, .bipush (-3), 2), (65, .ireturn, 1), (66, .aload_n 0, 1), (67, .getfield 156, 3), (70, .bipush 12, 2), (72, .if_icmp .ne 6, 3), (75, .bipush (-4), 2), (77, .ireturn, 1), (78, .aload_n 0, 1), (79, .getfield 156, 3), (82, .istore 5, 2), (84, .aload_n 0, 1), (85, .getfield 92, 3), (88, .iload 5, 2), (90, .iload_n 1, 1), (91, .iastore, 1), (92, .aload_n 0, 1), (93, .getfield 95, 3), (96, .iload 5, 2), (98, .iload_n 2, 1), (99, .iastore, 1), (100, .aload_n 0, 1), (101, .getfield 98, 3), (104, .iload 5, 2), (106, .iload_n 3, 1), (107, .iastore, 1), (108, .aload_n 0, 1), (109, .getfield 101, 3), (112, .iload 5, 2), (114, .iload 4, 2), (116, .iastore, 1), (117, .aload_n 0, 1), (118, .dup, 1), (119, .getfield 156, 3), (122, .iconst 1, 1), (123, .iadd, 1), (124, .putfield 156, 3), (127, .aload_n 0, 1), (128, .iload 5, 2), (130, .invokevirtual 275, 3), (133, .iconst 0, 1), (134, .istore 6, 2), (136, .iload 6, 2), (138, .aload_n 0, 1), (139, .getfield 140, 3), (142, .if_icmp .ge 35, 3), (145, .aload_n 0, 1), (146, .getfield 104, 3), (149, .bipush 10, 2), (151, .iload 5, 2), (153, .imul, 1), (154, .iload 6, 2), (156, .iadd, 1), (157, .aload_n 0, 1), (158, .getfield 77, 3), (161, .aload_n 0, 1), (162, .iload 6, 2), (164, .iload 5, 2), (166, .invokevirtual 279, 3), (169, .iaload, 1), (170, .iastore, 1), (171, .iinc 6 1, 3), (174, .goto (-38), 3), (177, .iload 5, 2), (179, .ireturn, 1)]
theorem okX12_scene : ∀ q ∈ iX12_scene, decode cX12_scene q.1 = .ok q.2 := by decide +kernel
def iX12_isScene : List (Nat × Instr × Nat) := [(0, .iload_n 1, 1), (1, .ifCond .lt 15, 3), (4, .iload_n 1, 1), (5, .aload_n 0, 1), (6, .getfield 156, 3), (9, .if_icmp .ge 7, 3), (12, .iconst 1, 1), (13, .goto 4, 3), (16, .iconst 0, 1), (17, .ireturn, 1)]
theorem okX12_isScene : ∀ q ∈ iX12_isScene, decode cX12_isScene q.1 = .ok q.2 := by decide +kernel
def iX12_stands : List (Nat × Instr × Nat) := [(0, .aload_n 0, 1), (1, .iload_n 1, 1), (2, .invokevirtual 282, 3), (5, .ifCond .eq 25, 3), (8, .aload_n 0, 1), (9, .iload_n 2, 1), (10, .invokevirtual 285, 3), (13, .ifCond .eq 17, 3), (16, .aload_n 0, 1), (17, .getfield 104, 3), (20, .bipush 10, 2), (22, .iload_n 2, 1), (23, .imul, 1), (24, .iload_n 1, 1), (25, .iadd, 1), (26, .iaload, 1), (27, .goto 4, 3), (30, .iconst (-1), 1), (31, .ireturn, 1)]
theorem okX12_stands : ∀ q ∈ iX12_stands, decode cX12_stands q.1 = .ok q.2 := by decide +kernel
def iX12_lands : List (Nat × Instr × Nat) := [(0, .aload_n 0, 1), (1, .iload_n 1, 1), (2, .invokevirtual 282, 3), (5, .ifCond .ne 5, 3), (8, .iconst (-1), 1), (9, .ireturn, 1), (10, .aload_n 0, 1), (11, .getfield 156, 3), (14, .ifCond .ne 6, 3), (17, .bipush (-3), 2), (19, .ireturn, 1), (20, .aload_n 0, 1), (21, .aload_n 0, 1), (22, .getfield 156, 3), (25, .invokevirtual 275, 3), (28, .aload_n 0, 1), (29, .getfield 77, 3), (32, .aload_n 0, 1), (33, .iload_n 1, 1), (34, .aload_n 0, 1), (35, .getfield 156, 3), (38, .invokevirtual 279, 3), (41, .iaload, 1), (42, .ireturn, 1)]
theorem okX12_lands : ∀ q ∈ iX12_lands, decode cX12_lands q.1 = .ok q.2 := by decide +kernel
def iX12_length : List (Nat × Instr × Nat) := [(0, .iconst 0, 1), (1, .istore_n 1, 1), (2, .iconst 0, 1), (3, .istore_n 2, 1), (4, .iload_n 2, 1), (5, .aload_n 0, 1), (6, .getfield 156, 3), (9, .if_icmp .ge 25, 3), (12, .iload_n 1, 1), (13, .aload_n 0, 1), (14, .getfield 95, 3), (17, .iload_n 2, 1), (18, .iaload, 1), (19, .aload_n 0, 1), (20, .getfield 98, 3), (23, .iload_n 2, 1), (24, .iaload, 1), (25, .iadd, 1), (26, .iadd, 1), (27, .istore_n 1, 1), (28, .iinc 2 1, 3), (31, .goto (-27), 3), (34, .aload_n 0, 1), (35, .getfield 156, 3), (38, .ifCond .ne 7, 3), (41, .iconst 0, 1), (42, .goto 16, 3), (45, .iload_n 1, 1), (46, .aload_n 0, 1), (47, .getfield 95, 3), (50, .aload_n 0, 1), (51, .getfield 156, 3), (54, .iconst 1, 1), (55, .isub, 1), (56, .iaload, 1), (57, .iadd, 1), (58, .ireturn, 1)]
theorem okX12_length : ∀ q ∈ iX12_length, decode cX12_length q.1 = .ok q.2 := by decide +kernel
def iX12_heightIn : List (Nat × Instr × Nat) := [(0, .iload_n 2, 1), (1, .ifCond .ge 7, 3), (4, .iconst 0, 1), (5, .goto 29, 3), (8, .aload_n 0, 1), (9, .getfield 28, 3), (12, .bipush 10, 2), (14, .aload_n 0, 1), (15, .getfield 92, 3), (18, .iload_n 2, 1), (19, .iaload, 1), (20, .imul, 1), (21, .aload_n 0, 1), (22, .getfield 104, 3), (25, .bipush 10, 2), (27, .iload_n 2, 1), (28, .imul, 1), (29, .iload_n 1, 1), (30, .iadd, 1), (31, .iaload, 1), (32, .iadd, 1), (33, .iaload, 1), (34, .ireturn, 1)]
theorem okX12_heightIn : ∀ q ∈ iX12_heightIn, decode cX12_heightIn q.1 = .ok q.2 := by decide +kernel
def iX12_leftTo : List (Nat × Instr × Nat) := [(0, .aload_n 0, 1), (1, .getfield 16, 3), (4, .iload_n 1, 1), (5, .iaload, 1), (6, .istore_n 2, 1), (7, .iconst 0, 1), (8, .istore_n 3, 1), (9, .iload_n 3, 1), (10, .aload_n 0, 1), (11, .getfield 156, 3), (14, .if_icmp .ge 50, 3), (17, .iload_n 2, 1), (18, .iconst 2, 1), (19, .aload_n 0, 1), (20, .getfield 98, 3), (23, .iload_n 3, 1), (24, .iaload, 1), (25, .imul, 1), (26, .aload_n 0, 1), (27, .getfield 95, 3), (30, .iload_n 3, 1), (31, .iaload, 1), (32, .aload_n 0, 1), (33, .iload_n 1, 1), (34, .iload_n 3, 1), (35, .invokevirtual 288, 3), (38, .aload_n 0, 1), (39, .iload_n 1, 1), (40, .iload_n 3, 1), (41, .iconst 1, 1), (42, .isub, 1), (43, .invokevirtual 288, 3), (46, .if_icmp .le 7, 3), (49, .iconst 4, 1), (50, .goto 4, 3), (53, .iconst 3, 1), (54, .imul, 1), (55, .iadd, 1), (56, .isub, 1), (57, .istore_n 2, 1), (58, .iinc 3 1, 3), (61, .goto (-52), 3), (64, .aload_n 0, 1), (65, .getfield 156, 3), (68, .ifCond .ne 7, 3), (71, .iload_n 2, 1), (72, .goto 18, 3), (75, .iload_n 2, 1), (76, .iconst 3, 1), (77, .aload_n 0, 1), (78, .getfield 95, 3), (81, .aload_n 0, 1), (82, .getfield 156, 3), (85, .iconst 1, 1), (86, .isub, 1), (87, .iaload, 1), (88, .imul, 1), (89, .isub, 1), (90, .ireturn, 1)]
theorem okX12_leftTo : ∀ q ∈ iX12_leftTo, decode cX12_leftTo q.1 = .ok q.2 := by decide +kernel
def iX12_left : List (Nat × Instr × Nat) := [(0, .aload_n 0, 1), (1, .iload_n 1, 1), (2, .invokevirtual 282, 3), (5, .ifCond .eq 11, 3), (8, .aload_n 0, 1), (9, .iload_n 1, 1), (10, .invokevirtual 291, 3), (13, .goto 6, 3), (16, .ldc_w 294, 3), (19, .ireturn, 1)]
theorem okX12_left : ∀ q ∈ iX12_left, decode cX12_left q.1 = .ok q.2 := by decide +kernel
def iX12_last : List (Nat × Instr × Nat) := [(0, .iconst 0, 1), (1, .istore_n 1, 1), (2, .iconst 0, 1), (3, .istore_n 2, 1), (4, .iload_n 2, 1), (5, .aload_n 0, 1), (6, .getfield 140, 3), (9, .if_icmp .ge 31, 3), (12, .iload_n 1, 1), (13, .aload_n 0, 1), (14, .iload_n 2, 1), (15, .invokevirtual 291, 3), (18, .aload_n 0, 1), (19, .getfield 110, 3), (22, .if_icmp .lt 9, 3), (25, .iconst 1, 1), (26, .iload_n 2, 1), (27, .ishl, 1), (28, .goto 4, 3), (31, .iconst 0, 1), (32, .ior, 1), (33, .istore_n 1, 1), (34, .iinc 2 1, 3), (37, .goto (-33), 3), (40, .iload_n 1, 1), (41, .ireturn, 1)]
theorem okX12_last : ∀ q ∈ iX12_last, decode cX12_last q.1 = .ok q.2 := by decide +kernel
def iX12_margin : List (Nat × Instr × Nat) := [(0, .iload_n 1, 1), (1, .i2l, 1), (2, .lconst 0, 1), (3, .ldc2_w 295, 3), (6, .invokestatic 150, 3), (9, .ifCond .ne 6, 3), (12, .bipush (-2), 2), (14, .ireturn, 1), (15, .aload_n 0, 1), (16, .getfield 110, 3), (19, .istore_n 2, 1), (20, .aload_n 0, 1), (21, .iload_n 1, 1), (22, .putfield 110, 3), (25, .iload_n 2, 1), (26, .ireturn, 1)]
theorem okX12_margin : ∀ q ∈ iX12_margin, decode cX12_margin q.1 = .ok q.2 := by decide +kernel
def iX12_colour : List (Nat × Instr × Nat) := [(0, .aload_n 0, 1), (1, .getfield 156, 3), (4, .ifCond .eq 17, 3), (7, .iload_n 1, 1), (8, .i2l, 1), (9, .lconst 0, 1), (10, .aload_n 0, 1), (11, .invokevirtual 297, 3), (14, .i2l, 1), (15, .invokestatic 150, 3), (18, .ifCond .ne 5, 3), (21, .iconst (-1), 1), (22, .ireturn, 1), (23, .iconst 0, 1), (24, .istore_n 2, 1), (25, .iconst 0, 1), (26, .istore_n 3, 1), (27, .iconst 0, 1), (28, .istore 4, 2), (30, .iload 4, 2), (32, .aload_n 0, 1), (33, .getfield 156, 3), (36, .if_icmp .ge 82, 3), (39, .iload_n 1, 1), (40, .iload_n 2, 1), (41, .isub, 1), (42, .istore 5, 2), (44, .iload 5, 2), (46, .aload_n 0, 1), (47, .getfield 95, 3), (50, .iload 4, 2), (52, .iaload, 1), (53, .if_icmp .ge 26, 3), (56, .iload_n 3, 1), (57, .aload_n 0, 1), (58, .getfield 101, 3), (61, .iload 4, 2), (63, .iaload, 1), (64, .iload_n 3, 1), (65, .isub, 1), (66, .iload 5, 2), (68, .imul, 1), (69, .aload_n 0, 1), (70, .getfield 95, 3), (73, .iload 4, 2), (75, .iaload, 1), (76, .idiv, 1), (77, .iadd, 1), (78, .ireturn, 1), (79, .aload_n 0, 1), (80, .getfield 101, 3), (83, .iload 4, 2), (85, .iaload, 1), (86, .istore_n 3, 1), (87, .iload_n 2, 1), (88, .aload_n 0, 1), (89, .getfield 95, 3), (92, .iload 4, 2), (94, .iaload, 1), (95, .aload_n 0, 1), (96, .getfield 98, 3), (99, .iload 4, 2), (101, .iaload, 1), (102, .iadd, 1), (103, .iadd, 1), (104, .istore_n 2, 1), (105, .iload_n 1, 1), (106, .iload_n 2, 1), (107, .if_icmp .gt 5, 3), (110, .iload_n 3, 1), (111, .ireturn, 1), (112, .iinc 4 1, 3), (115, .goto (-85), 3), (118, .iload_n 3, 1), (119, .iload_n 3, 1), (120, .iload_n 1, 1), (121, .iload_n 2, 1), (122, .isub, 1), (123, .imul, 1), (124, .aload_n 0, 1), (125, .getfield 95, 3), (128, .aload_n 0, 1), (129, .getfield 156, 3), (132, .iconst 1, 1), (133, .isub, 1), (134, .iaload, 1), (135, .idiv, 1), (136, .isub, 1), (137, .ireturn, 1)]
theorem okX12_colour : ∀ q ∈ iX12_colour, decode cX12_colour q.1 = .ok q.2 := by decide +kernel
def iX12_unclean : List (Nat × Instr × Nat) := [(0, .iconst 0, 1), (1, .istore_n 1, 1), (2, .iconst 0, 1), (3, .istore_n 2, 1), (4, .iload_n 2, 1), (5, .aload_n 0, 1), (6, .getfield 156, 3), (9, .if_icmp .gt 48, 3), (12, .aload_n 0, 1), (13, .getfield 156, 3), (16, .ifCond .le 41, 3), (19, .aload_n 0, 1), (20, .iload_n 2, 1), (21, .invokevirtual 275, 3), (24, .aload_n 0, 1), (25, .iconst 1, 1), (26, .invokevirtual 265, 3), (29, .ifCond .ne 22, 3), (32, .iload_n 1, 1), (33, .iconst 1, 1), (34, .iload_n 2, 1), (35, .aload_n 0, 1), (36, .getfield 156, 3), (39, .if_icmp .ne 8, 3), (42, .bipush 12, 2), (44, .goto 4, 3), (47, .iload_n 2, 1), (48, .ishl, 1), (49, .ior, 1), (50, .istore_n 1, 1), (51, .iinc 2 1, 3), (54, .goto (-50), 3), (57, .iload_n 1, 1), (58, .ireturn, 1)]
theorem okX12_unclean : ∀ q ∈ iX12_unclean, decode cX12_unclean q.1 = .ok q.2 := by decide +kernel
def iX12_worthAt : List (Nat × Instr × Nat) := [(0, .aload_n 0, 1), (1, .getfield 31, 3), (4, .bipush 10, 2), (6, .aload_n 0, 1), (7, .getfield 92, 3), (10, .iload_n 2, 1), (11, .iaload, 1), (12, .imul, 1), (13, .aload_n 0, 1), (14, .getfield 104, 3), (17, .bipush 10, 2), (19, .iload_n 2, 1), (20, .imul, 1), (21, .iload_n 1, 1), (22, .iadd, 1), (23, .iaload, 1), (24, .iadd, 1), (25, .iaload, 1), (26, .ireturn, 1)]
theorem okX12_worthAt : ∀ q ∈ iX12_worthAt, decode cX12_worthAt q.1 = .ok q.2 := by decide +kernel
def iX12_fails : List (Nat × Instr × Nat) := [(0, .aload_n 0, 1), (1, .iload_n 1, 1), (2, .invokevirtual 282, 3), (5, .ifCond .eq 21, 3), (8, .aload_n 0, 1), (9, .iload_n 2, 1), (10, .invokevirtual 285, 3), (13, .ifCond .eq 13, 3), (16, .iload_n 3, 1), (17, .i2l, 1), (18, .lconst 0, 1), (19, .lconst 1, 1), (20, .invokestatic 150, 3), (23, .ifCond .ne 5, 3), (26, .iconst (-1), 1), (27, .ireturn, 1), (28, .aload_n 0, 1), (29, .iload_n 1, 1), (30, .iload_n 2, 1), (31, .invokevirtual 300, 3), (34, .istore 4, 2), (36, .bipush (-2), 2), (38, .istore 5, 2), (40, .iconst 0, 1), (41, .istore 6, 2), (43, .iload 6, 2), (45, .aload_n 0, 1), (46, .getfield 140, 3), (49, .if_icmp .ge 43, 3), (52, .iload 6, 2), (54, .iload_n 1, 1), (55, .if_icmp .eq 31, 3), (58, .aload_n 0, 1), (59, .iload 6, 2), (61, .iload_n 2, 1), (62, .invokevirtual 300, 3), (65, .iload 4, 2), (67, .if_icmp .lt 6, 3), (70, .goto 16, 3), (73, .aload_n 0, 1), (74, .iload 6, 2), (76, .iload_n 2, 1), (77, .invokevirtual 300, 3), (80, .istore 4, 2), (82, .iload 6, 2), (84, .istore 5, 2), (86, .iinc 6 1, 3), (89, .goto (-46), 3), (92, .iload_n 3, 1), (93, .ifCond .ne 8, 3), (96, .iload 4, 2), (98, .goto 5, 3), (101, .iload 5, 2), (103, .ireturn, 1)]
theorem okX12_fails : ∀ q ∈ iX12_fails, decode cX12_fails q.1 = .ok q.2 := by decide +kernel
def iX12_cut : List (Nat × Instr × Nat) := [(0, .aload_n 0, 1), (1, .getfield 156, 3), (4, .ifCond .ne 6, 3), (7, .bipush (-3), 2), (9, .ireturn, 1), (10, .aload_n 0, 1), (11, .dup, 1), (12, .getfield 156, 3), (15, .iconst 1, 1), (16, .isub, 1), (17, .putfield 156, 3), (20, .aload_n 0, 1), (21, .getfield 156, 3), (24, .ireturn, 1)]
theorem okX12_cut : ∀ q ∈ iX12_cut, decode cX12_cut q.1 = .ok q.2 := by decide +kernel
def iX12_mark : List (Nat × Instr × Nat) := [(0, .iload_n 1, 1), (1, .i2l, 1), (2, .lconst 0, 1), (3, .ldc2_w 263, 3), (6, .invokestatic 150, 3), (9, .ifCond .ne 5, 3), (12, .iconst (-1), 1), (13, .ireturn, 1), (14, .iload_n 2, 1), (15, .i2l, 1), (16, .lconst 0, 1), (17, .ldc2_w 303, 3), (20, .invokestatic 150, 3), (23, .ifCond .eq 45, 3), (26, .iload_n 3, 1), (27, .i2l, 1), (28, .ldc2_w 146, 3), (31, .ldc2_w 148, 3), (34, .invokestatic 150, 3), (37, .ifCond .eq 31, 3), (40, .iload 4, 2), (42, .i2l, 1), (43, .ldc2_w 146, 3), (46, .ldc2_w 148, 3), (49, .invokestatic 150, 3), (52, .ifCond .eq 16, 3), (55, .iload 5, 2), (57, .i2l, 1), (58, .lconst 0, 1), (59, .ldc2_w 148, 3), (62, .invokestatic 150, 3), (65, .ifCond .ne 6, 3), (68, .bipush (-2), 2), (70, .ireturn, 1), (71, .iconst 0, 1), (72, .istore 6, 2), (74, .iload 6, 2), (76, .aload_n 0, 1), (77, .getfield 305, 3), (80, .if_icmp .ge 34, 3), (83, .aload_n 0, 1), (84, .getfield 113, 3), (87, .iload 6, 2), (89, .iaload, 1), (90, .iload_n 1, 1), (91, .if_icmp .ne 17, 3), (94, .aload_n 0, 1), (95, .getfield 116, 3), (98, .iload 6, 2), (100, .iaload, 1), (101, .iload_n 2, 1), (102, .if_icmp .lt 6, 3), (105, .bipush (-2), 2), (107, .ireturn, 1), (108, .iinc 6 1, 3), (111, .goto (-37), 3), (114, .aload_n 0, 1), (115, .getfield 305, 3), (118, .sipush 200, 3), (121, .if_icmp .ne 6, 3), (124, .bipush (-4), 2), (126, .ireturn, 1), (127, .aload_n 0, 1), (128, .getfield 113, 3), (131, .aload_n 0, 1), (132, .getfield 305, 3), (135, .iload_n 1, 1), (136, .iastore, 1), (137, .aload_n 0, 1), (138, .getfield 116, 3), (141, .aload_n 0, 1), (142, .getfield 305, 3), (145, .iload_n 2, 1), (146, .iastore, 1), (147, .aload_n 0, 1), (148, .getfield 119, 3), (151, .aload_n 0, 1), (152, .getfield 305, 3), (155, .iload_n 3, 1), (156, .iastore, 1), (157, .aload_n 0, 1), (158, .getfield 122, 3), (161, .aload_n 0, 1), (162, .getfield 305, 3), (165, .iload 4, 2), (167, .iastore, 1), (168, .aload_n 0, 1), (169, .getfield 125, 3), (172, .aload_n 0, 1), (173, .getfield 305, 3), (176, .iload 5, 2), (178, .iastore, 1), (179, .aload_n 0, 1), (180, .dup, 1), (181, .getfield 305, 3), (184, .iconst 1, 1), (185, .iadd, 1), (186, .putfield 305, 3), (189, .aload_n 0, 1), (190, .getfield 305, 3), (193, .ireturn, 1)]
theorem okX12_mark : ∀ q ∈ iX12_mark, decode cX12_mark q.1 = .ok q.2 := by decide +kernel
def iX12_markOf : List (Nat × Instr × Nat) := [(0, .iconst 0, 1), (1, .istore_n 3, 1), (2, .iload_n 3, 1), (3, .aload_n 0, 1), (4, .getfield 305, 3), (7, .if_icmp .ge 31, 3), (10, .aload_n 0, 1), (11, .getfield 113, 3), (14, .iload_n 3, 1), (15, .iaload, 1), (16, .iload_n 1, 1), (17, .if_icmp .ne 15, 3), (20, .aload_n 0, 1), (21, .getfield 116, 3), (24, .iload_n 3, 1), (25, .iaload, 1), (26, .iload_n 2, 1), (27, .if_icmp .ne 5, 3), (30, .iload_n 3, 1), (31, .ireturn, 1), (32, .iinc 3 1, 3), (35, .goto (-33), 3), (38, .iconst (-1), 1), (39, .ireturn, 1)]
theorem okX12_markOf : ∀ q ∈ iX12_markOf, decode cX12_markOf q.1 = .ok q.2 := by decide +kernel
def iX12_isInZone : List (Nat × Instr × Nat) := [(0, .aload_n 0, 1), (1, .getfield 128, 3), (4, .iload_n 1, 1), (5, .iaload, 1), (6, .ifCond .lt 10, 3), (9, .aload_n 0, 1), (10, .getfield 216, 3), (13, .ifCond .ne 5, 3), (16, .iconst 0, 1), (17, .ireturn, 1), (18, .aload_n 0, 1), (19, .getfield 119, 3), (22, .aload_n 0, 1), (23, .getfield 128, 3), (26, .iload_n 1, 1), (27, .iaload, 1), (28, .iaload, 1), (29, .aload_n 0, 1), (30, .getfield 210, 3), (33, .isub, 1), (34, .istore_n 2, 1), (35, .aload_n 0, 1), (36, .getfield 122, 3), (39, .aload_n 0, 1), (40, .getfield 128, 3), (43, .iload_n 1, 1), (44, .iaload, 1), (45, .iaload, 1), (46, .aload_n 0, 1), (47, .getfield 213, 3), (50, .isub, 1), (51, .istore_n 3, 1), (52, .aload_n 0, 1), (53, .getfield 131, 3), (56, .iload_n 1, 1), (57, .iaload, 1), (58, .ifCond .lt 7, 3), (61, .iconst 1, 1), (62, .goto 4, 3), (65, .iconst 0, 1), (66, .istore 4, 2), (68, .iload 4, 2), (70, .ifCond .eq 29, 3), (73, .aload_n 0, 1), (74, .getfield 119, 3), (77, .aload_n 0, 1), (78, .getfield 131, 3), (81, .iload_n 1, 1), (82, .iaload, 1), (83, .iaload, 1), (84, .aload_n 0, 1), (85, .getfield 119, 3), (88, .aload_n 0, 1), (89, .getfield 128, 3), (92, .iload_n 1, 1), (93, .iaload, 1), (94, .iaload, 1), (95, .isub, 1), (96, .goto 4, 3), (99, .iconst 0, 1), (100, .istore 5, 2), (102, .iload 4, 2), (104, .ifCond .eq 29, 3), (107, .aload_n 0, 1), (108, .getfield 122, 3), (111, .aload_n 0, 1), (112, .getfield 131, 3), (115, .iload_n 1, 1), (116, .iaload, 1), (117, .iaload, 1), (118, .aload_n 0, 1), (119, .getfield 122, 3), (122, .aload_n 0, 1), (123, .getfield 128, 3), (126, .iload_n 1, 1), (127, .iaload, 1), (128, .iaload, 1), (129, .isub, 1), (130, .goto 4, 3), (133, .iconst 0, 1), (134, .istore 6, 2), (136, .iload_n 2, 1), (137, .i2l, 1), (138, .iload_n 3, 1), (139, .i2l, 1), (140, .lconst 0, 1), (141, .iload 5, 2), (143, .i2l, 1), (144, .iload 6, 2), (146, .i2l, 1), (147, .lconst 0, 1), (148, .lconst 1, 1), (149, .aload_n 0, 1), (150, .getfield 216, 3), (153, .i2l, 1), (154, .invokestatic 232, 3), (157, .ireturn, 1)]
theorem okX12_isInZone : ∀ q ∈ iX12_isInZone, decode cX12_isInZone q.1 = .ok q.2 := by decide +kernel
def iX12_areNear : List (Nat × Instr × Nat) := [(0, .aload_n 0, 1), (1, .getfield 128, 3), (4, .iload_n 1, 1), (5, .iaload, 1), (6, .ifCond .lt 12, 3), (9, .aload_n 0, 1), (10, .getfield 128, 3), (13, .iload_n 2, 1), (14, .iaload, 1), (15, .ifCond .ge 5, 3), (18, .iconst 0, 1), (19, .ireturn, 1), (20, .aload_n 0, 1), (21, .getfield 119, 3), (24, .aload_n 0, 1), (25, .getfield 128, 3), (28, .iload_n 1, 1), (29, .iaload, 1), (30, .iaload, 1), (31, .aload_n 0, 1), (32, .getfield 119, 3), (35, .aload_n 0, 1), (36, .getfield 128, 3), (39, .iload_n 2, 1), (40, .iaload, 1), (41, .iaload, 1), (42, .isub, 1), (43, .istore_n 3, 1), (44, .aload_n 0, 1), (45, .getfield 122, 3), (48, .aload_n 0, 1), (49, .getfield 128, 3), (52, .iload_n 1, 1), (53, .iaload, 1), (54, .iaload, 1), (55, .aload_n 0, 1), (56, .getfield 122, 3), (59, .aload_n 0, 1), (60, .getfield 128, 3), (63, .iload_n 2, 1), (64, .iaload, 1), (65, .iaload, 1), (66, .isub, 1), (67, .istore 4, 2), (69, .aload_n 0, 1), (70, .getfield 125, 3), (73, .aload_n 0, 1), (74, .getfield 128, 3), (77, .iload_n 1, 1), (78, .iaload, 1), (79, .iaload, 1), (80, .aload_n 0, 1), (81, .getfield 125, 3), (84, .aload_n 0, 1), (85, .getfield 128, 3), (88, .iload_n 2, 1), (89, .iaload, 1), (90, .iaload, 1), (91, .isub, 1), (92, .istore 5, 2), (94, .aload_n 0, 1), (95, .getfield 131, 3), (98, .iload_n 1, 1), (99, .iaload, 1), (100, .ifCond .lt 12, 3), (103, .aload_n 0, 1), (104, .getfield 131, 3), (107, .iload_n 2, 1), (108, .iaload, 1), (109, .ifCond .ge 24, 3), (112, .iload_n 3, 1), (113, .i2l, 1), (114, .iload 4, 2), (116, .i2l, 1), (117, .iload 5, 2), (119, .i2l, 1), (120, .lconst 0, 1), (121, .lconst 0, 1), (122, .lconst 0, 1), (123, .lconst 1, 1), (124, .aload_n 0, 1), (125, .getfield 34, 3), (128, .i2l, 1), (129, .invokestatic 232, 3), (132, .ireturn, 1), (133, .aload_n 0, 1), (134, .getfield 119, 3), (137, .aload_n 0, 1), (138, .getfield 131, 3), (141, .iload_n 1, 1), (142, .iaload, 1), (143, .iaload, 1), (144, .aload_n 0, 1), (145, .getfield 119, 3), (148, .aload_n 0, 1), (149, .getfield 131, 3), (152, .iload_n 2, 1), (153, .iaload, 1), (154, .iaload, 1), (155, .isub, 1), (156, .iload_n 3, 1), (157, .isub, 1), (158, .istore 6, 2), (160, .aload_n 0, 1), (161, .getfield 122, 3), (164, .aload_n 0, 1), (165, .getfield 131, 3), (168, .iload_n 1, 1), (169, .iaload, 1), (170, .iaload, 1), (171, .aload_n 0, 1), (172, .getfield 122, 3), (175, .aload_n 0, 1), (176, .getfield 131, 3), (179, .iload_n 2, 1), (180, .iaload, 1), (181, .iaload, 1), (182, .isub, 1), (183, .iload 4, 2), (185, .isub, 1), (186, .istore 7, 2), (188, .aload_n 0, 1), (189, .getfield 125, 3), (192, .aload_n 0, 1), (193, .getfield 131, 3), (196, .iload_n 1, 1), (197, .iaload, 1), (198, .iaload, 1), (199, .aload_n 0, 1), (200, .getfield 125, 3), (203, .aload_n 0, 1), (204, .getfield 131, 3), (207, .iload_n 2, 1), (208, .iaload, 1), (209, .iaload, 1), (210, .isub, 1), (211, .iload 5, 2), (213, .isub, 1), (214, .istore 8, 2), (216, .iload_n 3, 1), (217, .i2l, 1), (218, .iload 4, 2), (220, .i2l, 1), (221, .iload 5, 2), (223, .i2l, 1), (224, .iload 6, 2), (226, .i2l, 1), (227, .iload 7, 2), (229, .i2l, 1), (230, .iload 8, 2), (232, .i2l, 1), (233, .lconst 1, 1), (234, .aload_n 0, 1), (235, .getfield 34, 3), (238, .i2l, 1), (239, .invokestatic 232, 3), (242, .ireturn, 1)]
theorem okX12_areNear : ∀ q ∈ iX12_areNear, decode cX12_areNear q.1 = .ok q.2 := by decide +kernel
def iX12_findClash : List (Nat × Instr × Nat) := [(0, .iconst 0, 1), (1, .istore_n 2, 1), (2, .iload_n 2, 1), (3, .bipush 10, 2), (5, .if_icmp .ge 35, 3), (8, .aload_n 0, 1), (9, .getfield 128, 3), (12, .iload_n 2, 1), (13, .aload_n 0, 1), (14, .iload_n 2, 1), (15, .iload_n 1, 1), (16, .invokevirtual 308, 3), (19, .iastore, 1), (20, .aload_n 0, 1), (21, .getfield 131, 3), (24, .iload_n 2, 1), (25, .aload_n 0, 1), (26, .iload_n 2, 1), (27, .iload_n 1, 1), (28, .iconst 1, 1), (29, .iadd, 1), (30, .invokevirtual 308, 3), (33, .iastore, 1), (34, .iinc 2 1, 3), (37, .goto (-35), 3), (40, .iconst 0, 1), (41, .istore_n 2, 1), (42, .iload_n 2, 1), (43, .bipush 10, 2), (45, .if_icmp .ge 69, 3), (48, .aload_n 0, 1), (49, .iload_n 2, 1), (50, .invokevirtual 311, 3), (53, .ifCond .eq 15, 3), (56, .aload_n 0, 1), (57, .iload_n 2, 1), (58, .putfield 134, 3), (61, .aload_n 0, 1), (62, .iconst (-1), 1), (63, .putfield 137, 3), (66, .iconst 1, 1), (67, .ireturn, 1), (68, .iload_n 2, 1), (69, .iconst 1, 1), (70, .iadd, 1), (71, .istore_n 3, 1), (72, .iload_n 3, 1), (73, .bipush 10, 2), (75, .if_icmp .ge 33, 3), (78, .aload_n 0, 1), (79, .iload_n 2, 1), (80, .iload_n 3, 1), (81, .invokevirtual 314, 3), (84, .ifCond .ne 6, 3), (87, .goto 15, 3), (90, .aload_n 0, 1), (91, .iload_n 2, 1), (92, .putfield 134, 3), (95, .aload_n 0, 1), (96, .iload_n 3, 1), (97, .putfield 137, 3), (100, .iconst 1, 1), (101, .ireturn, 1), (102, .iinc 3 1, 3), (105, .goto (-33), 3), (108, .iinc 2 1, 3), (111, .goto (-69), 3), (114, .iconst 0, 1), (115, .ireturn, 1)]
theorem okX12_findClash : ∀ q ∈ iX12_findClash, decode cX12_findClash q.1 = .ok q.2 := by decide +kernel
def iX12_first : List (Nat × Instr × Nat) := [(0, .iconst (-1), 1), (1, .istore_n 1, 1), (2, .sipush 1000, 3), (5, .istore_n 2, 1), (6, .iconst 0, 1), (7, .istore_n 3, 1), (8, .iload_n 3, 1), (9, .aload_n 0, 1), (10, .getfield 305, 3), (13, .if_icmp .ge 40, 3), (16, .aload_n 0, 1), (17, .getfield 116, 3), (20, .iload_n 3, 1), (21, .iaload, 1), (22, .iload_n 1, 1), (23, .if_icmp .le 22, 3), (26, .aload_n 0, 1), (27, .getfield 116, 3), (30, .iload_n 3, 1), (31, .iaload, 1), (32, .iload_n 2, 1), (33, .if_icmp .ge 12, 3), (36, .aload_n 0, 1), (37, .getfield 116, 3), (40, .iload_n 3, 1), (41, .iaload, 1), (42, .goto 4, 3), (45, .iload_n 2, 1), (46, .istore_n 2, 1), (47, .iinc 3 1, 3), (50, .goto (-42), 3), (53, .iload_n 2, 1), (54, .sipush 1000, 3), (57, .if_icmp .ne 5, 3), (60, .iconst (-1), 1), (61, .ireturn, 1), (62, .aload_n 0, 1), (63, .iload_n 2, 1), (64, .invokevirtual 317, 3), (67, .ifCond .eq 5, 3), (70, .iload_n 2, 1), (71, .ireturn, 1), (72, .iload_n 2, 1), (73, .istore_n 1, 1), (74, .goto (-72), 3)]
theorem okX12_first : ∀ q ∈ iX12_first, decode cX12_first q.1 = .ok q.2 := by decide +kernel
def iX12_who : List (Nat × Instr × Nat) := [(0, .iload_n 1, 1), (1, .ifCond .ne 10, 3), (4, .aload_n 0, 1), (5, .getfield 134, 3), (8, .goto 16, 3), (11, .iload_n 1, 1), (12, .iconst 1, 1), (13, .if_icmp .ne 10, 3), (16, .aload_n 0, 1), (17, .getfield 137, 3), (20, .goto 4, 3), (23, .iconst (-1), 1), (24, .ireturn, 1)]
theorem okX12_who : ∀ q ∈ iX12_who, decode cX12_who q.1 = .ok q.2 := by decide +kernel
def iX12_wipe : List (Nat × Instr × Nat) := [(0, .aload_n 0, 1), (1, .getfield 305, 3), (4, .istore_n 1, 1), (5, .aload_n 0, 1), (6, .iconst 0, 1), (7, .putfield 305, 3), (10, .iload_n 1, 1), (11, .ireturn, 1)]
theorem okX12_wipe : ∀ q ∈ iX12_wipe, decode cX12_wipe q.1 = .ok q.2 := by decide +kernel
def iX12_count : List (Nat × Instr × Nat) := [(0, .iload_n 1, 1), (1, .tableswitch 78 0 6 #[43, 48, 53, 58, 63, 68, 73], 43), (44, .aload_n 0, 1), (45, .getfield 140, 3), (48, .ireturn, 1), (49, .aload_n 0, 1), (50, .getfield 143, 3), (53, .ireturn, 1), (54, .aload_n 0, 1), (55, .getfield 156, 3), (58, .ireturn, 1), (59, .aload_n 0, 1), (60, .getfield 305, 3), (63, .ireturn, 1), (64, .aload_n 0, 1), (65, .getfield 161, 3), (68, .ireturn, 1), (69, .aload_n 0, 1), (70, .getfield 34, 3), (73, .ireturn, 1), (74, .aload_n 0, 1), (75, .getfield 110, 3), (78, .ireturn, 1), (79, .iconst (-1), 1), (80, .ireturn, 1)]
theorem okX12_count : ∀ q ∈ iX12_count, decode cX12_count q.1 = .ok q.2 := by decide +kernel
end
section
def iL_law_0 : List (Nat × Instr × Nat) := [(0, .new 7, 3), (3, .dup, 1), (4, .invokespecial 9, 3), (7, .astore_n 1, 1), (8, .new 10, 3), (11, .dup, 1), (12, .invokespecial 12, 3), (15, .astore_n 2, 1), (16, .iconst 0, 1), (17, .istore_n 3, 1), (18, .iload_n 3, 1), (19, .aload_n 0, 1), (20, .arraylength, 1), (21, .bipush 6, 2), (23, .isub, 1), (24, .if_icmp .gt 990, 3), (27, .aload_n 0, 1), (28, .iload_n 3, 1), (29, .iaload, 1), (30, .bipush 31, 2), (32, .iand, 1), (33, .tableswitch 975 0 29 #[135, 178, 241, 254, 297, 320, 343, 386, 429, 452, 485, 518, 541, 554, 567, 620, 653, 676, 689, 712, 725, 748, 771, 784, 827, 840, 903, 916, 939, 952], 135), (168, .aload_n 1, 1), (169, .aload_n 0, 1), (170, .iload_n 3, 1), (171, .iconst 1, 1), (172, .iadd, 1), (173, .iaload, 1), (174, .aload_n 0, 1), (175, .iload_n 3, 1), (176, .iconst 2, 1), (177, .iadd, 1), (178, .iaload, 1), (179, .aload_n 0, 1), (180, .iload_n 3, 1), (181, .iconst 3, 1), (182, .iadd, 1), (183, .iaload, 1), (184, .invokevirtual 13, 3), (187, .aload_n 2, 1), (188, .aload_n 0, 1), (189, .iload_n 3, 1), (190, .iconst 1, 1), (191, .iadd, 1), (192, .iaload, 1), (193, .aload_n 0, 1), (194, .iload_n 3, 1), (195, .iconst 2, 1), (196, .iadd, 1), (197, .iaload, 1)]
theorem okL_law_0 : ∀ q ∈ iL_law_0, decode cL_law q.1 = .ok q.2 := by decide +kernel
def iL_law_1 : List (Nat × Instr × Nat) := [(198, .aload_n 0, 1), (199, .iload_n 3, 1), (200, .iconst 3, 1), (201, .iadd, 1), (202, .iaload, 1), (203, .invokevirtual 17, 3), (206, .if_icmp .eq 802, 3), (209, .iconst 0, 1), (210, .ireturn, 1), (211, .aload_n 1, 1), (212, .aload_n 0, 1), (213, .iload_n 3, 1), (214, .iconst 1, 1), (215, .iadd, 1), (216, .iaload, 1), (217, .i2l, 1), (218, .bipush 32, 2), (220, .lshl, 1), (221, .aload_n 0, 1), (222, .iload_n 3, 1), (223, .iconst 2, 1), (224, .iadd, 1), (225, .iaload, 1), (226, .i2l, 1), (227, .ldc2_w 18, 3), (230, .land, 1), (231, .lor, 1), (232, .aload_n 0, 1), (233, .iload_n 3, 1), (234, .iconst 3, 1), (235, .iadd, 1), (236, .iaload, 1), (237, .invokevirtual 20, 3), (240, .aload_n 2, 1), (241, .aload_n 0, 1), (242, .iload_n 3, 1), (243, .iconst 1, 1), (244, .iadd, 1), (245, .iaload, 1), (246, .i2l, 1), (247, .bipush 32, 2), (249, .lshl, 1), (250, .aload_n 0, 1), (251, .iload_n 3, 1), (252, .iconst 2, 1), (253, .iadd, 1), (254, .iaload, 1), (255, .i2l, 1), (256, .ldc2_w 18, 3), (259, .land, 1)]
theorem okL_law_1 : ∀ q ∈ iL_law_1, decode cL_law q.1 = .ok q.2 := by decide +kernel
def iL_law_2 : List (Nat × Instr × Nat) := [(260, .lor, 1), (261, .aload_n 0, 1), (262, .iload_n 3, 1), (263, .iconst 3, 1), (264, .iadd, 1), (265, .iaload, 1), (266, .invokevirtual 24, 3), (269, .if_icmp .eq 739, 3), (272, .iconst 0, 1), (273, .ireturn, 1), (274, .aload_n 1, 1), (275, .invokevirtual 25, 3), (278, .aload_n 2, 1), (279, .invokevirtual 29, 3), (282, .if_icmp .eq 726, 3), (285, .iconst 0, 1), (286, .ireturn, 1), (287, .aload_n 1, 1), (288, .aload_n 0, 1), (289, .iload_n 3, 1), (290, .iconst 1, 1), (291, .iadd, 1), (292, .iaload, 1), (293, .aload_n 0, 1), (294, .iload_n 3, 1), (295, .iconst 2, 1), (296, .iadd, 1), (297, .iaload, 1), (298, .aload_n 0, 1), (299, .iload_n 3, 1), (300, .iconst 3, 1), (301, .iadd, 1), (302, .iaload, 1), (303, .invokevirtual 30, 3), (306, .aload_n 2, 1), (307, .aload_n 0, 1), (308, .iload_n 3, 1), (309, .iconst 1, 1), (310, .iadd, 1), (311, .iaload, 1), (312, .aload_n 0, 1), (313, .iload_n 3, 1), (314, .iconst 2, 1), (315, .iadd, 1), (316, .iaload, 1), (317, .aload_n 0, 1), (318, .iload_n 3, 1), (319, .iconst 3, 1), (320, .iadd, 1), (321, .iaload, 1)]
theorem okL_law_2 : ∀ q ∈ iL_law_2, decode cL_law q.1 = .ok q.2 := by decide +kernel
def iL_law_3 : List (Nat × Instr × Nat) := [(322, .invokevirtual 33, 3), (325, .if_icmp .eq 683, 3), (328, .iconst 0, 1), (329, .ireturn, 1), (330, .aload_n 1, 1), (331, .aload_n 0, 1), (332, .iload_n 3, 1), (333, .iconst 1, 1), (334, .iadd, 1), (335, .iaload, 1), (336, .invokevirtual 34, 3), (339, .aload_n 2, 1), (340, .aload_n 0, 1), (341, .iload_n 3, 1), (342, .iconst 1, 1), (343, .iadd, 1), (344, .iaload, 1), (345, .invokevirtual 38, 3), (348, .if_icmp .eq 660, 3), (351, .iconst 0, 1), (352, .ireturn, 1), (353, .aload_n 1, 1), (354, .aload_n 0, 1), (355, .iload_n 3, 1), (356, .iconst 1, 1), (357, .iadd, 1), (358, .iaload, 1), (359, .invokevirtual 39, 3), (362, .aload_n 2, 1), (363, .aload_n 0, 1), (364, .iload_n 3, 1), (365, .iconst 1, 1), (366, .iadd, 1), (367, .iaload, 1), (368, .invokevirtual 42, 3), (371, .if_icmp .eq 637, 3), (374, .iconst 0, 1), (375, .ireturn, 1), (376, .aload_n 1, 1), (377, .aload_n 0, 1), (378, .iload_n 3, 1), (379, .iconst 1, 1), (380, .iadd, 1), (381, .iaload, 1), (382, .aload_n 0, 1), (383, .iload_n 3, 1), (384, .iconst 2, 1), (385, .iadd, 1), (386, .iaload, 1), (387, .aload_n 0, 1)]
theorem okL_law_3 : ∀ q ∈ iL_law_3, decode cL_law q.1 = .ok q.2 := by decide +kernel
def iL_law_4 : List (Nat × Instr × Nat) := [(388, .iload_n 3, 1), (389, .iconst 3, 1), (390, .iadd, 1), (391, .iaload, 1), (392, .invokevirtual 43, 3), (395, .aload_n 2, 1), (396, .aload_n 0, 1), (397, .iload_n 3, 1), (398, .iconst 1, 1), (399, .iadd, 1), (400, .iaload, 1), (401, .aload_n 0, 1), (402, .iload_n 3, 1), (403, .iconst 2, 1), (404, .iadd, 1), (405, .iaload, 1), (406, .aload_n 0, 1), (407, .iload_n 3, 1), (408, .iconst 3, 1), (409, .iadd, 1), (410, .iaload, 1), (411, .invokevirtual 46, 3), (414, .if_icmp .eq 594, 3), (417, .iconst 0, 1), (418, .ireturn, 1), (419, .aload_n 1, 1), (420, .aload_n 0, 1), (421, .iload_n 3, 1), (422, .iconst 1, 1), (423, .iadd, 1), (424, .iaload, 1), (425, .aload_n 0, 1), (426, .iload_n 3, 1), (427, .iconst 2, 1), (428, .iadd, 1), (429, .iaload, 1), (430, .aload_n 0, 1), (431, .iload_n 3, 1), (432, .iconst 3, 1), (433, .iadd, 1), (434, .iaload, 1), (435, .invokevirtual 47, 3), (438, .aload_n 2, 1), (439, .aload_n 0, 1), (440, .iload_n 3, 1), (441, .iconst 1, 1), (442, .iadd, 1), (443, .iaload, 1), (444, .aload_n 0, 1), (445, .iload_n 3, 1)]
theorem okL_law_4 : ∀ q ∈ iL_law_4, decode cL_law q.1 = .ok q.2 := by decide +kernel
def iL_law_5 : List (Nat × Instr × Nat) := [(446, .iconst 2, 1), (447, .iadd, 1), (448, .iaload, 1), (449, .aload_n 0, 1), (450, .iload_n 3, 1), (451, .iconst 3, 1), (452, .iadd, 1), (453, .iaload, 1), (454, .invokevirtual 50, 3), (457, .if_icmp .eq 551, 3), (460, .iconst 0, 1), (461, .ireturn, 1), (462, .aload_n 1, 1), (463, .aload_n 0, 1), (464, .iload_n 3, 1), (465, .iconst 1, 1), (466, .iadd, 1), (467, .iaload, 1), (468, .invokevirtual 51, 3), (471, .aload_n 2, 1), (472, .aload_n 0, 1), (473, .iload_n 3, 1), (474, .iconst 1, 1), (475, .iadd, 1), (476, .iaload, 1), (477, .invokevirtual 54, 3), (480, .if_icmp .eq 528, 3), (483, .iconst 0, 1), (484, .ireturn, 1), (485, .aload_n 1, 1), (486, .aload_n 0, 1), (487, .iload_n 3, 1), (488, .iconst 1, 1), (489, .iadd, 1), (490, .iaload, 1), (491, .aload_n 0, 1), (492, .iload_n 3, 1), (493, .iconst 2, 1), (494, .iadd, 1), (495, .iaload, 1), (496, .invokevirtual 55, 3), (499, .aload_n 2, 1), (500, .aload_n 0, 1), (501, .iload_n 3, 1), (502, .iconst 1, 1), (503, .iadd, 1), (504, .iaload, 1), (505, .aload_n 0, 1), (506, .iload_n 3, 1), (507, .iconst 2, 1)]
theorem okL_law_5 : ∀ q ∈ iL_law_5, decode cL_law q.1 = .ok q.2 := by decide +kernel
def iL_law_6 : List (Nat × Instr × Nat) := [(508, .iadd, 1), (509, .iaload, 1), (510, .invokevirtual 59, 3), (513, .if_icmp .eq 495, 3), (516, .iconst 0, 1), (517, .ireturn, 1), (518, .aload_n 1, 1), (519, .aload_n 0, 1), (520, .iload_n 3, 1), (521, .iconst 1, 1), (522, .iadd, 1), (523, .iaload, 1), (524, .aload_n 0, 1), (525, .iload_n 3, 1), (526, .iconst 2, 1), (527, .iadd, 1), (528, .iaload, 1), (529, .invokevirtual 60, 3), (532, .aload_n 2, 1), (533, .aload_n 0, 1), (534, .iload_n 3, 1), (535, .iconst 1, 1), (536, .iadd, 1), (537, .iaload, 1), (538, .aload_n 0, 1), (539, .iload_n 3, 1), (540, .iconst 2, 1), (541, .iadd, 1), (542, .iaload, 1), (543, .invokevirtual 63, 3), (546, .if_icmp .eq 462, 3), (549, .iconst 0, 1), (550, .ireturn, 1), (551, .aload_n 1, 1), (552, .aload_n 0, 1), (553, .iload_n 3, 1), (554, .iconst 1, 1), (555, .iadd, 1), (556, .iaload, 1), (557, .invokevirtual 64, 3), (560, .aload_n 2, 1), (561, .aload_n 0, 1), (562, .iload_n 3, 1), (563, .iconst 1, 1), (564, .iadd, 1), (565, .iaload, 1), (566, .invokevirtual 67, 3), (569, .if_icmp .eq 439, 3), (572, .iconst 0, 1), (573, .ireturn, 1)]
theorem okL_law_6 : ∀ q ∈ iL_law_6, decode cL_law q.1 = .ok q.2 := by decide +kernel
def iL_law_7 : List (Nat × Instr × Nat) := [(574, .aload_n 1, 1), (575, .invokevirtual 68, 3), (578, .aload_n 2, 1), (579, .invokevirtual 71, 3), (582, .if_icmp .eq 426, 3), (585, .iconst 0, 1), (586, .ireturn, 1), (587, .aload_n 1, 1), (588, .invokevirtual 72, 3), (591, .aload_n 2, 1), (592, .invokevirtual 75, 3), (595, .if_icmp .eq 413, 3), (598, .iconst 0, 1), (599, .ireturn, 1), (600, .aload_n 1, 1), (601, .aload_n 0, 1), (602, .iload_n 3, 1), (603, .iconst 1, 1), (604, .iadd, 1), (605, .iaload, 1), (606, .aload_n 0, 1), (607, .iload_n 3, 1), (608, .iconst 2, 1), (609, .iadd, 1), (610, .iaload, 1), (611, .aload_n 0, 1), (612, .iload_n 3, 1), (613, .iconst 3, 1), (614, .iadd, 1), (615, .iaload, 1), (616, .aload_n 0, 1), (617, .iload_n 3, 1), (618, .iconst 4, 1), (619, .iadd, 1), (620, .iaload, 1), (621, .invokevirtual 76, 3), (624, .aload_n 2, 1), (625, .aload_n 0, 1), (626, .iload_n 3, 1), (627, .iconst 1, 1), (628, .iadd, 1), (629, .iaload, 1), (630, .aload_n 0, 1), (631, .iload_n 3, 1), (632, .iconst 2, 1), (633, .iadd, 1), (634, .iaload, 1), (635, .aload_n 0, 1), (636, .iload_n 3, 1), (637, .iconst 3, 1)]
theorem okL_law_7 : ∀ q ∈ iL_law_7, decode cL_law q.1 = .ok q.2 := by decide +kernel
def iL_law_8 : List (Nat × Instr × Nat) := [(638, .iadd, 1), (639, .iaload, 1), (640, .aload_n 0, 1), (641, .iload_n 3, 1), (642, .iconst 4, 1), (643, .iadd, 1), (644, .iaload, 1), (645, .invokevirtual 80, 3), (648, .if_icmp .eq 360, 3), (651, .iconst 0, 1), (652, .ireturn, 1), (653, .aload_n 1, 1), (654, .aload_n 0, 1), (655, .iload_n 3, 1), (656, .iconst 1, 1), (657, .iadd, 1), (658, .iaload, 1), (659, .aload_n 0, 1), (660, .iload_n 3, 1), (661, .iconst 2, 1), (662, .iadd, 1), (663, .iaload, 1), (664, .invokevirtual 81, 3), (667, .aload_n 2, 1), (668, .aload_n 0, 1), (669, .iload_n 3, 1), (670, .iconst 1, 1), (671, .iadd, 1), (672, .iaload, 1), (673, .aload_n 0, 1), (674, .iload_n 3, 1), (675, .iconst 2, 1), (676, .iadd, 1), (677, .iaload, 1), (678, .invokevirtual 84, 3), (681, .if_icmp .eq 327, 3), (684, .iconst 0, 1), (685, .ireturn, 1), (686, .aload_n 1, 1), (687, .aload_n 0, 1), (688, .iload_n 3, 1), (689, .iconst 1, 1), (690, .iadd, 1), (691, .iaload, 1), (692, .invokevirtual 85, 3), (695, .aload_n 2, 1), (696, .aload_n 0, 1), (697, .iload_n 3, 1), (698, .iconst 1, 1), (699, .iadd, 1)]
theorem okL_law_8 : ∀ q ∈ iL_law_8, decode cL_law q.1 = .ok q.2 := by decide +kernel
def iL_law_9 : List (Nat × Instr × Nat) := [(700, .iaload, 1), (701, .invokevirtual 88, 3), (704, .if_icmp .eq 304, 3), (707, .iconst 0, 1), (708, .ireturn, 1), (709, .aload_n 1, 1), (710, .invokevirtual 89, 3), (713, .aload_n 2, 1), (714, .invokevirtual 92, 3), (717, .if_icmp .eq 291, 3), (720, .iconst 0, 1), (721, .ireturn, 1), (722, .aload_n 1, 1), (723, .aload_n 0, 1), (724, .iload_n 3, 1), (725, .iconst 1, 1), (726, .iadd, 1), (727, .iaload, 1), (728, .invokevirtual 93, 3), (731, .aload_n 2, 1), (732, .aload_n 0, 1), (733, .iload_n 3, 1), (734, .iconst 1, 1), (735, .iadd, 1), (736, .iaload, 1), (737, .invokevirtual 96, 3), (740, .if_icmp .eq 268, 3), (743, .iconst 0, 1), (744, .ireturn, 1), (745, .aload_n 1, 1), (746, .invokevirtual 97, 3), (749, .aload_n 2, 1), (750, .invokevirtual 100, 3), (753, .if_icmp .eq 255, 3), (756, .iconst 0, 1), (757, .ireturn, 1), (758, .aload_n 1, 1), (759, .aload_n 0, 1), (760, .iload_n 3, 1), (761, .iconst 1, 1), (762, .iadd, 1), (763, .iaload, 1), (764, .invokevirtual 101, 3), (767, .aload_n 2, 1), (768, .aload_n 0, 1), (769, .iload_n 3, 1), (770, .iconst 1, 1), (771, .iadd, 1), (772, .iaload, 1), (773, .invokevirtual 104, 3)]
theorem okL_law_9 : ∀ q ∈ iL_law_9, decode cL_law q.1 = .ok q.2 := by decide +kernel
def iL_law_10 : List (Nat × Instr × Nat) := [(776, .if_icmp .eq 232, 3), (779, .iconst 0, 1), (780, .ireturn, 1), (781, .aload_n 1, 1), (782, .aload_n 0, 1), (783, .iload_n 3, 1), (784, .iconst 1, 1), (785, .iadd, 1), (786, .iaload, 1), (787, .invokevirtual 105, 3), (790, .aload_n 2, 1), (791, .aload_n 0, 1), (792, .iload_n 3, 1), (793, .iconst 1, 1), (794, .iadd, 1), (795, .iaload, 1), (796, .invokevirtual 108, 3), (799, .if_icmp .eq 209, 3), (802, .iconst 0, 1), (803, .ireturn, 1), (804, .aload_n 1, 1), (805, .invokevirtual 109, 3), (808, .aload_n 2, 1), (809, .invokevirtual 112, 3), (812, .if_icmp .eq 196, 3), (815, .iconst 0, 1), (816, .ireturn, 1), (817, .aload_n 1, 1), (818, .aload_n 0, 1), (819, .iload_n 3, 1), (820, .iconst 1, 1), (821, .iadd, 1), (822, .iaload, 1), (823, .aload_n 0, 1), (824, .iload_n 3, 1), (825, .iconst 2, 1), (826, .iadd, 1), (827, .iaload, 1), (828, .aload_n 0, 1), (829, .iload_n 3, 1), (830, .iconst 3, 1), (831, .iadd, 1), (832, .iaload, 1), (833, .invokevirtual 113, 3), (836, .aload_n 2, 1), (837, .aload_n 0, 1), (838, .iload_n 3, 1), (839, .iconst 1, 1), (840, .iadd, 1), (841, .iaload, 1)]
theorem okL_law_10 : ∀ q ∈ iL_law_10, decode cL_law q.1 = .ok q.2 := by decide +kernel
def iL_law_11 : List (Nat × Instr × Nat) := [(842, .aload_n 0, 1), (843, .iload_n 3, 1), (844, .iconst 2, 1), (845, .iadd, 1), (846, .iaload, 1), (847, .aload_n 0, 1), (848, .iload_n 3, 1), (849, .iconst 3, 1), (850, .iadd, 1), (851, .iaload, 1), (852, .invokevirtual 116, 3), (855, .if_icmp .eq 153, 3), (858, .iconst 0, 1), (859, .ireturn, 1), (860, .aload_n 1, 1), (861, .invokevirtual 117, 3), (864, .aload_n 2, 1), (865, .invokevirtual 120, 3), (868, .if_icmp .eq 140, 3), (871, .iconst 0, 1), (872, .ireturn, 1), (873, .aload_n 1, 1), (874, .aload_n 0, 1), (875, .iload_n 3, 1), (876, .iconst 1, 1), (877, .iadd, 1), (878, .iaload, 1), (879, .aload_n 0, 1), (880, .iload_n 3, 1), (881, .iconst 2, 1), (882, .iadd, 1), (883, .iaload, 1), (884, .aload_n 0, 1), (885, .iload_n 3, 1), (886, .iconst 3, 1), (887, .iadd, 1), (888, .iaload, 1), (889, .aload_n 0, 1), (890, .iload_n 3, 1), (891, .iconst 4, 1), (892, .iadd, 1), (893, .iaload, 1), (894, .aload_n 0, 1), (895, .iload_n 3, 1), (896, .iconst 5, 1), (897, .iadd, 1), (898, .iaload, 1), (899, .invokevirtual 121, 3), (902, .aload_n 2, 1), (903, .aload_n 0, 1)]
theorem okL_law_11 : ∀ q ∈ iL_law_11, decode cL_law q.1 = .ok q.2 := by decide +kernel
def iL_law_12 : List (Nat × Instr × Nat) := [(904, .iload_n 3, 1), (905, .iconst 1, 1), (906, .iadd, 1), (907, .iaload, 1), (908, .aload_n 0, 1), (909, .iload_n 3, 1), (910, .iconst 2, 1), (911, .iadd, 1), (912, .iaload, 1), (913, .aload_n 0, 1), (914, .iload_n 3, 1), (915, .iconst 3, 1), (916, .iadd, 1), (917, .iaload, 1), (918, .aload_n 0, 1), (919, .iload_n 3, 1), (920, .iconst 4, 1), (921, .iadd, 1), (922, .iaload, 1), (923, .aload_n 0, 1), (924, .iload_n 3, 1), (925, .iconst 5, 1), (926, .iadd, 1), (927, .iaload, 1), (928, .invokevirtual 125, 3), (931, .if_icmp .eq 77, 3), (934, .iconst 0, 1), (935, .ireturn, 1), (936, .aload_n 1, 1), (937, .invokevirtual 126, 3), (940, .aload_n 2, 1), (941, .invokevirtual 129, 3), (944, .if_icmp .eq 64, 3), (947, .iconst 0, 1), (948, .ireturn, 1), (949, .aload_n 1, 1), (950, .aload_n 0, 1), (951, .iload_n 3, 1), (952, .iconst 1, 1), (953, .iadd, 1), (954, .iaload, 1), (955, .invokevirtual 130, 3), (958, .aload_n 2, 1), (959, .aload_n 0, 1), (960, .iload_n 3, 1), (961, .iconst 1, 1), (962, .iadd, 1), (963, .iaload, 1), (964, .invokevirtual 133, 3), (967, .if_icmp .eq 41, 3)]
theorem okL_law_12 : ∀ q ∈ iL_law_12, decode cL_law q.1 = .ok q.2 := by decide +kernel
def iL_law_13 : List (Nat × Instr × Nat) := [(970, .iconst 0, 1), (971, .ireturn, 1), (972, .aload_n 1, 1), (973, .invokevirtual 134, 3), (976, .aload_n 2, 1), (977, .invokevirtual 137, 3), (980, .if_icmp .eq 28, 3), (983, .iconst 0, 1), (984, .ireturn, 1), (985, .aload_n 1, 1), (986, .aload_n 0, 1), (987, .iload_n 3, 1), (988, .iconst 1, 1), (989, .iadd, 1), (990, .iaload, 1), (991, .invokevirtual 138, 3), (994, .aload_n 2, 1), (995, .aload_n 0, 1), (996, .iload_n 3, 1), (997, .iconst 1, 1), (998, .iadd, 1), (999, .iaload, 1), (1000, .invokevirtual 141, 3), (1003, .if_icmp .eq 5, 3), (1006, .iconst 0, 1), (1007, .ireturn, 1), (1008, .iinc 3 6, 3), (1011, .goto (-993), 3), (1014, .iconst 1, 1), (1015, .ireturn, 1)]
theorem okL_law_13 : ∀ q ∈ iL_law_13, decode cL_law q.1 = .ok q.2 := by decide +kernel
end
section
/-! ===== whole numbers for the machine's numbers ===== -/
def iI (x : Int) : Int32 := Int32.ofInt x
def lI (x : Int) : Int64 := Int64.ofInt x
abbrev rI (x : Int) : Prop := -2147483648 ≤ x ∧ x < 2147483648
abbrev rL (x : Int) : Prop := -9223372036854775808 ≤ x ∧ x < 9223372036854775808
theorem iI_toInt {x : Int} (h : rI x) : (iI x).toInt = x := Int32.toInt_ofInt_of_le (by have := h.1; omega) (by have := h.2; omega)
theorem lI_toInt {x : Int} (h : rL x) : (lI x).toInt = x := Int64.toInt_ofInt_of_le (by have := h.1; omega) (by have := h.2; omega)
theorem iI_of (x : Int32) : iI x.toInt = x := Int32.ofInt_toInt x
theorem lI_of (x : Int64) : lI x.toInt = x := Int64.ofInt_toInt x
theorem rI_of (x : Int32) : rI x.toInt := ⟨by have := x.le_toInt; omega, by have := x.toInt_lt; omega⟩
theorem rL_of (x : Int64) : rL x.toInt := ⟨by have := x.le_toInt; omega, by have := x.toInt_lt; omega⟩
theorem iI_add (a b : Int) : iI a + iI b = iI (a + b) := (Int32.ofInt_add a b).symm
theorem iI_sub (a b : Int) : iI a - iI b = iI (a - b) := (Int32.ofInt_sub a b).symm
theorem iI_mul (a b : Int) : iI a * iI b = iI (a * b) := (Int32.ofInt_mul a b).symm
theorem iI_neg (a : Int) : -iI a = iI (-a) := Int32.neg_ofInt
theorem lI_add (a b : Int) : lI a + lI b = lI (a + b) := (Int64.ofInt_add a b).symm
theorem lI_sub (a b : Int) : lI a - lI b = lI (a - b) := (Int64.ofInt_sub a b).symm
theorem lI_mul (a b : Int) : lI a * lI b = lI (a * b) := (Int64.ofInt_mul a b).symm
theorem lI_neg (a : Int) : -lI a = lI (-a) := Int64.neg_ofInt
theorem iI_lt {a b : Int} (ha : rI a) (hb : rI b) : iI a < iI b ↔ a < b := by rw [Int32.lt_iff_toInt_lt, iI_toInt ha, iI_toInt hb]
theorem iI_le {a b : Int} (ha : rI a) (hb : rI b) : iI a ≤ iI b ↔ a ≤ b := by rw [Int32.le_iff_toInt_le, iI_toInt ha, iI_toInt hb]
theorem iI_eq {a b : Int} (ha : rI a) (hb : rI b) : iI a = iI b ↔ a = b := by rw [← Int32.toInt_inj, iI_toInt ha, iI_toInt hb]
theorem lI_lt {a b : Int} (ha : rL a) (hb : rL b) : lI a < lI b ↔ a < b := by rw [Int64.lt_iff_toInt_lt, lI_toInt ha, lI_toInt hb]
theorem lI_eq {a b : Int} (ha : rL a) (hb : rL b) : lI a = lI b ↔ a = b := by rw [← Int64.toInt_inj, lI_toInt ha, lI_toInt hb]
theorem iI_cl {x : Int} (h : rI x) (h0 : 0 ≤ x) : (iI x).toNatClampNeg = x.toNat := by
  have h1 : (0 : Int32) ≤ iI x := by rw [Int32.le_iff_toInt_le, iI_toInt h]; exact h0
  have h2 := Int32.toInt_eq_toNatClampNeg h1
  rw [iI_toInt h] at h2
  omega
theorem iI_in {x n : Int} (h : 0 ≤ x ∧ x < n) (hr : rI x) : vp_in (iI x) n.toNat := by
  unfold vp_in
  rw [iI_cl hr h.1, Int32.lt_iff_toInt_lt, iI_toInt hr]
  intro q
  rcases q with q | q
  · exact absurd h.1 (Int.not_le.mpr q)
  · omega
theorem iI_l {x : Int} (h : rI x) : (iI x).toInt64 = lI x := by
  apply Int64.toInt_inj.mp
  rw [Int32.toInt_toInt64, iI_toInt h, lI_toInt ⟨by omega, by omega⟩]
/-! operations that are bits: told by the machine's own -/
def iand (a b : Int) : Int := (iI a &&& iI b).toInt
def ior (a b : Int) : Int := (iI a ||| iI b).toInt
def ishl (a b : Int) : Int := (iI a <<< (iI b &&& 31)).toInt
def ishr (a b : Int) : Int := (iI a >>> (iI b &&& 31)).toInt
def iushr (a b : Int) : Int := ((iI a).toUInt32 >>> ((iI b).toUInt32 &&& Int32.toUInt32 31)).toInt32.toInt
def idiv (a b : Int) : Int := (iI a / iI b).toInt
def imin (a b : Int) : Int := if b < a then b else a
def imax (a b : Int) : Int := if a < b then b else a
def l2i (x : Int) : Int := (lI x).toInt32.toInt
def land (a b : Int) : Int := (lI a &&& lI b).toInt
def lor (a b : Int) : Int := (lI a ||| lI b).toInt
def lshl (a b : Int) : Int := (lI a <<< ((iI b).toInt64 &&& 63)).toInt
def lshr (a b : Int) : Int := (lI a >>> ((iI b).toInt64 &&& 63)).toInt
def lushr (a b : Int) : Int := ((lI a).toUInt64 >>> ((iI b).toInt64.toUInt64 &&& Int64.toUInt64 63)).toInt64.toInt
theorem rI_imin {a b : Int} (ha : rI a) (hb : rI b) : rI (imin a b) := by unfold imin; split <;> assumption
theorem rI_imax {a b : Int} (ha : rI a) (hb : rI b) : rI (imax a b) := by unfold imax; split <;> assumption
/-! ===== the layout of all cells: the class's 158, then the reference's 40 ===== -/
def kdL : List Nat := [11, 10, 7, 13, 2, 5, 7, 13, 14, 5, 7, 13, 5, 7, 13, 5, 7, 13, 5, 7, 13, 5, 7, 13, 5, 7, 13, 5, 7, 13, 5, 7, 13, 5, 7, 13, 0, 6, 7, 13, 7, 13, 7, 13, 4, 7, 13, 3, 7, 13, 7, 13, 7, 13, 9, 15, 8, 4, 7, 13, 4, 7, 13, 7, 13, 8, 4, 7, 13, 4, 7, 13, 8, 4, 7, 13, 4, 7, 13, 8, 4, 7, 13, 4, 7, 13, 8, 4, 7, 13, 4, 7, 13, 8, 4, 7, 13, 4, 7, 13, 8, 4, 7, 13, 4, 7, 13, 8, 4, 7, 13, 4, 7, 13, 8, 4, 7, 13, 4, 7, 13, 8, 4, 7, 13, 4, 7, 13, 8, 4, 7, 13, 4, 7, 13, 8, 4, 7, 13, 4, 7, 13, 8, 4, 7, 13, 4, 7, 13, 1, 7, 13, 7, 13, 7, 13, 7, 13, 12, 13, 13, 13, 13, 13, 13, 13, 13, 13, 13, 13, 13, 13, 13, 13, 13, 13, 13, 13, 13, 13, 13, 13, 13, 13, 13, 13, 13, 13, 13, 13, 13, 13, 13, 13, 13, 13, 13, 13]
def lnL : List Int := [0, 0, 0, 300, 0, 0, 0, 40, 8, 0, 0, 40, 0, 0, 40, 0, 0, 40, 0, 0, 40, 0, 0, 40, 0, 0, 40, 0, 0, 40, 0, 0, 40, 0, 0, 40, 0, 0, 0, 100, 0, 1024, 0, 10, 0, 0, 80, 0, 0, 100, 0, 6, 0, 6, 0, 12, 0, 0, 0, 80, 0, 0, 80, 0, 10, 0, 0, 0, 80, 0, 0, 80, 0, 0, 0, 80, 0, 0, 80, 0, 0, 0, 80, 0, 0, 80, 0, 0, 0, 80, 0, 0, 80, 0, 0, 0, 80, 0, 0, 80, 0, 0, 0, 80, 0, 0, 80, 0, 0, 0, 80, 0, 0, 80, 0, 0, 0, 80, 0, 0, 80, 0, 0, 0, 80, 0, 0, 80, 0, 0, 0, 80, 0, 0, 80, 0, 0, 0, 80, 0, 0, 80, 0, 0, 0, 80, 0, 0, 80, 0, 0, 1000, 0, 10, 0, 10, 0, 10, 0, 10, 10, 10, 8, 80, 80, 80, 80, 300, 20, 20, 20, 20, 20, 20, 20, 2, 2, 10, 100, 1024, 10, 10, 10, 10, 10, 12, 12, 12, 12, 120, 10, 200, 200, 200, 200, 200, 10, 10]
def kd (a : Int) : Nat := if a < 0 then 99 else kdL.getD a.toNat 99
def ln (a : Int) : Int := if a < 0 then 0 else lnL.getD a.toNat 0
def nf (k : Nat) : Nat := ([4, 7, 4, 6, 3, 2, 3, 1, 5, 5, 4, 8, 53] : List Nat).getD k 0
def isr (k i : Nat) : Bool := (([[false, false, false, false], [true, true, true, true, false, false, false], [true, true, true, false], [true, true, true, false, false, false], [true, false, false], [true, false], [true, true, true], [true], [true, true, false, false, false], [true, true, true, false, false], [true, false, false, false], [true, true, true, true, true, true, true, true], [true, true, true, true, true, true, true, true, false, false, false, false, false, false, true, false, false, false, true, true, true, true, true, true, true, true, true, true, true, true, true, true, true, true, true, true, true, true, true, true, true, false, false, true, true, true, true, true, false, false, false, true, true]] : List (List Bool)).getD k []).getD i false
def rf1 : List Int := [150, 152, 154, 156, 0, 0, 0]
def rf2 : List Int := [5, 8, 9, 0]
def rf3 : List Int := [48, 50, 52, 0, 0, 0]
def rf6 : List Int := [38, 40, 42]
def rf9 : List Int := [55, 56, 63, 0, 0]
def rf10 : List Int := [2, 0, 0, 0]
def rf11 : List Int := [1, 4, 36, 37, 44, 47, 54, 149]
def rf12 : List Int := [159, 160, 161, 162, 163, 164, 165, 166, 0, 0, 0, 0, 0, 0, 167, 0, 0, 0, 168, 169, 170, 171, 172, 173, 174, 175, 176, 177, 178, 179, 180, 181, 182, 183, 184, 185, 186, 187, 188, 189, 190, 0, 0, 191, 192, 193, 194, 195, 0, 0, 0, 196, 197]
def rf (a k : Int) : Int := match kd a with
  | 1 => rf1.getD k.toNat 0
  | 2 => rf2.getD k.toNat 0
  | 3 => rf3.getD k.toNat 0
  | 4 => a + 1
  | 5 => a + 1
  | 6 => rf6.getD k.toNat 0
  | 7 => a + 1
  | 8 => if k = 0 then a + 1 else a + 4
  | 9 => rf9.getD k.toNat 0
  | 10 => rf10.getD k.toNat 0
  | 11 => rf11.getD k.toNat 0
  | 12 => rf12.getD k.toNat 0
  | 14 => 12 + 3 * k
  | 15 => 65 + 7 * k
  | _ => 0
theorem kd_at {a : Int} {c : Nat} (h : kd a = c) (hc : c < 99) : 0 ≤ a ∧ a < 198 := by
  unfold kd at h
  split at h
  · omega
  · refine ⟨by omega, ?_⟩
    rcases Nat.lt_or_ge a.toNat 198 with q | q
    · omega
    · rw [List.getD_eq_getElem?_getD, List.getElem?_eq_none (by rw [show kdL.length = 198 from by decide +kernel]; exact q)] at h
      simp at h
      omega
theorem ln_all : ∀ n : Nat, n < 198 → rI (lnL.getD n 0) ∧ 0 ≤ lnL.getD n 0 := by decide +kernel
theorem ln_r (a : Int) : rI (ln a) ∧ 0 ≤ ln a := by
  unfold ln
  split
  · decide
  · rcases Nat.lt_or_ge a.toNat 198 with q | q
    · exact ln_all _ q
    · rw [List.getD_eq_getElem?_getD, List.getElem?_eq_none (by rw [show lnL.length = 198 from by decide +kernel]; exact q)]
      decide
theorem kd_all4 : ∀ n : Nat, n < 198 → (kdL.getD n 99 = 4 → kdL.getD (n + 1) 99 = 7) ∧ (kdL.getD n 99 = 5 → kdL.getD (n + 1) 99 = 7) ∧ (kdL.getD n 99 = 7 → kdL.getD (n + 1) 99 = 13) ∧ (kdL.getD n 99 = 8 → kdL.getD (n + 1) 99 = 4 ∧ kdL.getD (n + 4) 99 = 4) := by decide +kernel
theorem kd_nat (a : Int) (h : 0 ≤ a) : kd a = kdL.getD a.toNat 99 := by unfold kd; rw [if_neg (by omega)]
theorem k4 {a : Int} (h : kd a = 4) : kd (a + 1) = 7 := by
  have h1 := kd_at h (by decide)
  rw [kd_nat _ h1.1] at h
  rw [kd_nat _ (by omega), show (a + 1).toNat = a.toNat + 1 by omega]
  exact (kd_all4 a.toNat (by omega)).1 h
theorem k5 {a : Int} (h : kd a = 5) : kd (a + 1) = 7 := by
  have h1 := kd_at h (by decide)
  rw [kd_nat _ h1.1] at h
  rw [kd_nat _ (by omega), show (a + 1).toNat = a.toNat + 1 by omega]
  exact (kd_all4 a.toNat (by omega)).2.1 h
theorem k7 {a : Int} (h : kd a = 7) : kd (a + 1) = 13 := by
  have h1 := kd_at h (by decide)
  rw [kd_nat _ h1.1] at h
  rw [kd_nat _ (by omega), show (a + 1).toNat = a.toNat + 1 by omega]
  exact (kd_all4 a.toNat (by omega)).2.2.1 h
theorem k8 {a : Int} (h : kd a = 8) : kd (a + 1) = 4 ∧ kd (a + 4) = 4 := by
  have h1 := kd_at h (by decide)
  rw [kd_nat _ h1.1] at h
  have h2 := (kd_all4 a.toNat (by omega)).2.2.2 h
  rw [kd_nat _ (by omega), show (a + 1).toNat = a.toNat + 1 by omega, kd_nat _ (by omega), show (a + 4).toNat = a.toNat + 4 by omega]
  exact h2
theorem rf4 {a : Int} (h : kd a = 4) : rf a 0 = a + 1 := by simp [rf, h]
theorem rf5 {a : Int} (h : kd a = 5) : rf a 0 = a + 1 := by simp [rf, h]
theorem rf7 {a : Int} (h : kd a = 7) : rf a 0 = a + 1 := by simp [rf, h]
theorem rf80 {a : Int} (h : kd a = 8) : rf a 0 = a + 1 := by simp [rf, h]
theorem rf81 {a : Int} (h : kd a = 8) : rf a 1 = a + 4 := by simp [rf, h]
/-- a picture's cells: 12, 15 .. 33; a scene's: 65, 72 .. 142 -/
theorem kd_fig {i : Int} (h : 0 ≤ i ∧ i < 8) : kd (12 + 3 * i) = 5 := by
  obtain ⟨n, rfl⟩ : ∃ n : Nat, i = n := ⟨i.toNat, by omega⟩
  have h2 : ∀ n : Nat, n < 8 → kd (12 + 3 * (n : Int)) = 5 := by decide +kernel
  exact h2 n (by omega)
theorem kd_scn {i : Int} (h : 0 ≤ i ∧ i < 12) : kd (65 + 7 * i) = 8 := by
  obtain ⟨n, rfl⟩ : ∃ n : Nat, i = n := ⟨i.toNat, by omega⟩
  have h2 : ∀ n : Nat, n < 12 → kd (65 + 7 * (n : Int)) = 8 := by decide +kernel
  exact h2 n (by omega)
theorem rf14 {i : Int} : rf 8 i = 12 + 3 * i := by simp [rf, show kd 8 = 14 from by decide +kernel]
theorem rf15 {i : Int} : rf 55 i = 65 + 7 * i := by simp [rf, show kd 55 = 15 from by decide +kernel]
def up (I : Int → Int → Int) (a k v : Int) : Int → Int → Int := fun b j => if b = a ∧ j = k then v else I b j
end
section
/-! ===== the world: every cell at its place from the base on ===== -/
abbrev sk_G : Type := va_G × ClassId × ClassId × ClassId × Nat
def sk_ad (G : sk_G) (a : Int) : Nat := G.2.2.2.2 + a.toNat
def sk_A (G : sk_G) : Nat → Prop := fun q => G.2.2.2.2 ≤ q
def sk_tys (G : sk_G) : List (ClassId × FieldType) := [(G.2.1, .int), (G.2.2.1, .object "SkyLights$Places"), (G.2.2.2.1, .object "SkyLights$Scene")]
def fld (G : sk_G) (B : Int → Int → Bool) (J : Int → Int) (a : Int) (k : Nat) : Value := if isr (kd a) k = true then (if B a k = true then .ref (sk_ad G (rf a k)) else .null) else .int (iI (J k))
def sk_c (G : sk_G) (B : Int → Int → Bool) (J : Int → Int) (i : Nat) (H : Heap) : Prop :=
  (kd i < 13 → t_OB (G.2.2.2.2 + i) (G.1.1 (kd i)) (nf (kd i)) (G.1.2 (kd i)) H (fld G B J i)) ∧
  (kd i = 13 → H[G.2.2.2.2 + i]? = some (arrV G.2.1 (ln i).toNat (fun j => .int (iI (J j))))) ∧
  (kd i = 14 → H[G.2.2.2.2 + i]? = some (arrV G.2.2.1 (ln i).toNat (fun j => if B i j = true then .ref (sk_ad G (rf i j)) else .null))) ∧
  (kd i = 15 → H[G.2.2.2.2 + i]? = some (arrV G.2.2.2.1 (ln i).toNat (fun j => if B i j = true then .ref (sk_ad G (rf i j)) else .null)))
def sk_H (G : sk_G) (n : Nat) (B : Int → Int → Bool) (I : Int → Int → Int) (H : Heap) : Prop := H.size = G.2.2.2.2 + n ∧ (∀ i : Nat, i < n → sk_c G B (I i) i H) ∧ ∀ a k, rI (I a k)
def sk_W (G : sk_G) (n : Nat) (B : Int → Int → Bool) (I : Int → Int → Int) (s : State) (H : Heap) (locs : List Loc) : Prop := sk_H G n B I H ∧ va_S (sk_A G) s.heap H locs
def sk_U (G : sk_G) (n : Nat) (B : Int → Int → Bool) (I : Int → Int → Int) (U : State) : Prop := sk_H G n B I U.heap ∧ va_K G.1 vwCl (sk_tys G) U
def sk_t : Int → Int → Bool := fun _ _ => true
theorem sk_c.kept {G : sk_G} {B : Int → Int → Bool} {J : Int → Int} {i : Nat} {H H1 : Heap} (h : sk_c G B J i H) (hq : H1[G.2.2.2.2 + i]? = H[G.2.2.2.2 + i]?) : sk_c G B J i H1 :=
  ⟨fun q => (h.1 q).kept hq, fun q => hq.trans (h.2.1 q), fun q => hq.trans (h.2.2.1 q), fun q => hq.trans (h.2.2.2 q)⟩
theorem up_self (I : Int → Int → Int) (a k v : Int) : up I a k v a k = v := by simp [up]
theorem up_cell (I : Int → Int → Int) (a k v b : Int) (h : b ≠ a) : up I a k v b = I b := by funext j; simp [up, h]
theorem up_rI {I : Int → Int → Int} {a k v : Int} (h : ∀ a k, rI (I a k)) (hv : rI v) : ∀ b j, rI (up I a k v b j) := by
  intro b j
  unfold up
  split
  · exact hv
  · exact h b j
/-- one cell is written anew -/
theorem sk_H.set {G : sk_G} {n : Nat} {B : Int → Int → Bool} {I : Int → Int → Int} {H H1 : Heap} {i : Nat} {k v : Int} (h : sk_H G n B I H) (hi : i < n) (hv : rI v) (z : H1.size = H.size) (oq : ∀ q : Nat, q ≠ G.2.2.2.2 + i → H1[q]? = H[q]?) (hc : sk_c G B (up I i k v i) i H1) : sk_H G n B (up I i k v) H1 := by
  refine ⟨z.trans h.1, fun j hj => ?_, up_rI h.2.2 hv⟩
  by_cases e : j = i
  · subst e; exact hc
  · rw [up_cell _ _ _ _ _ (by omega)]
    exact (h.2.1 j hj).kept (oq _ (by omega))
section SKR
variable {p : Program} {l : Launch} {e : Env} {R : Room} {s : State} {m : MethodId} {args : Array Value} {below : List Frame} {meth : Method} {c : Code} {H : Heap} {locs : List Loc} {cells slots : Nat} {Q : State → Prop}
variable {cc : ByteArray} {pc nL : Nat} {ls : Array Slot} {rest : List Value} {Ts : List Cond} {own : String} {G : sk_G} {n : Nat} {B : Int → Int → Bool} {I : Int → Int → Int} {a : Int} {ci : Nat}
theorem sk_get (S : CallFix p m c cc nL s args Ts own) (hK : va_K G.1 vwCl (sk_tys G) s) (hw : sk_W G n B I s H locs) (hk : kd a = ci) (ha : 0 ≤ a ∧ a < n) {C ref : String} {T : u_T} {N index : Nat} (hc : vwCl[ci]? = some (C, T, N)) (hin : ∀ w ∈ u_ws C T N, w ∈ Ts) (k : Nat) (hf : k < N ∧ nf ci = N ∧ ci < 13 ∧ ref = (T k).1) (hlink : (Cond.fieldLink own index ref (T k).2.1 (T k).2.2.1).before args s = true) (hdg : decode cc pc = .ok (.getfield index, 3))
    (kk : W p l e R s m args below meth c H locs cells slots Q (F0 m (pc + 3) ls (fld G B (I a) a k :: rest))) : W p l e R s m args below meth c H locs cells slots Q (F0 m pc ls (.ref (sk_ad G a) :: rest)) := by
  obtain ⟨hexec, hb, -, hown, hts⟩ := S
  obtain ⟨i, rfl⟩ : ∃ i : Nat, a = i := ⟨a.toNat, by omega⟩
  subst hk
  obtain ⟨f1, f2, f3, f4⟩ := hf
  subst f4
  obtain ⟨cell, q1, q2, q3, q4⟩ := (hw.1.2.1 i (by omega)).1 f3
  obtain ⟨hS, hfc, kC, hkC, hkind⟩ := hK.1 _ _ hc
  obtain ⟨cf, kf, fi, f, hi, hsl⟩ := hS k f1
  refine W.getf (v := fld G B (I i) i k) hexec hb hown hlink hi (u_facts hfc hkC (u_lays hts hin f1) hi).1 q1 (by rw [q3]; exact fun h => by cases h) ?_ rfl rfl hdg kk
  rw [hsl]
  exact q4 k (by rw [f2]; exact f1)
theorem sk_geti (S : CallFix p m c cc nL s args Ts own) (hK : va_K G.1 vwCl (sk_tys G) s) (hw : sk_W G n B I s H locs) (hk : kd a = ci) (ha : 0 ≤ a ∧ a < n) {C ref : String} {T : u_T} {N index : Nat} (hc : vwCl[ci]? = some (C, T, N)) (hin : ∀ w ∈ u_ws C T N, w ∈ Ts) (k : Nat) (hf : k < N ∧ nf ci = N ∧ ci < 13 ∧ ref = (T k).1) (hr : isr ci k = false) {k' : Int} (hk' : (k : Int) = k') (hlink : (Cond.fieldLink own index ref (T k).2.1 (T k).2.2.1).before args s = true) (hdg : decode cc pc = .ok (.getfield index, 3))
    (kk : W p l e R s m args below meth c H locs cells slots Q (F0 m (pc + 3) ls (.int (iI (I a k')) :: rest))) : W p l e R s m args below meth c H locs cells slots Q (F0 m pc ls (.ref (sk_ad G a) :: rest)) := by
  refine sk_get S hK hw hk ha hc hin k hf hlink hdg ?_
  rw [show fld G B (I a) a k = .int (iI (I a k')) from by unfold fld; rw [hk, hr]; subst hk'; simp]
  exact kk
theorem sk_getr (S : CallFix p m c cc nL s args Ts own) (hK : va_K G.1 vwCl (sk_tys G) s) (hw : sk_W G n B I s H locs) (hk : kd a = ci) (ha : 0 ≤ a ∧ a < n) {C ref : String} {T : u_T} {N index : Nat} (hc : vwCl[ci]? = some (C, T, N)) (hin : ∀ w ∈ u_ws C T N, w ∈ Ts) (k : Nat) (hf : k < N ∧ nf ci = N ∧ ci < 13 ∧ ref = (T k).1) (hr : isr ci k = true) {k' b : Int} (hk' : (k : Int) = k') (hB : B a k' = true) (hrf : rf a k' = b) (hlink : (Cond.fieldLink own index ref (T k).2.1 (T k).2.2.1).before args s = true) (hdg : decode cc pc = .ok (.getfield index, 3))
    (kk : W p l e R s m args below meth c H locs cells slots Q (F0 m (pc + 3) ls (.ref (sk_ad G b) :: rest))) : W p l e R s m args below meth c H locs cells slots Q (F0 m pc ls (.ref (sk_ad G a) :: rest)) := by
  refine sk_get S hK hw hk ha hc hin k hf hlink hdg ?_
  rw [show fld G B (I a) a k = .ref (sk_ad G b) from by unfold fld; rw [hk, hr]; subst hk'; rw [if_pos rfl, hB, if_pos rfl, hrf]]
  exact kk
theorem sk_put (S : CallFix p m c cc nL s args Ts own) (hK : va_K G.1 vwCl (sk_tys G) s) (hw : sk_W G n B I s H locs) (hk : kd a = ci) (ha : 0 ≤ a ∧ a < n) {C ref : String} {T : u_T} {N index : Nat} (hc : vwCl[ci]? = some (C, T, N)) (hin : ∀ w ∈ u_ws C T N, w ∈ Ts) (ty0 : Nat → FieldType) (hty : ∀ k, k < N → parseFieldDescriptor (T k).2.2.1 = some (ty0 k)) (hnm : ∀ a, a < N → ∀ b, b < N → a ≠ b → (T a).2.1 ≠ (T b).2.1) (k : Nat) (hf : k < N ∧ nf ci = N ∧ ci < 13 ∧ ref = (T k).1) (hr : isr ci k = false) (hfin : (T k).2.2.2 = false) {k' : Int} (hk' : (k : Int) = k') {v : Int} (hv : rI v) (hfit : narrow (ty0 k) (.int (iI v)) = .int (iI v) ∧ fits (ty0 k) (.int (iI v)) = true) (hlink : (Cond.fieldLink own index ref (T k).2.1 (T k).2.2.1).before args s = true) (hdg : decode cc pc = .ok (.putfield index, 3))
    (kk : ∀ (H1 : Heap) (locs1 : List Loc), sk_W G n B (up I a k' v) s H1 locs1 → W p l e R s m args below meth c H1 locs1 cells slots Q (F0 m (pc + 3) ls rest)) : W p l e R s m args below meth c H locs cells slots Q (F0 m pc ls (.int (iI v) :: .ref (sk_ad G a) :: rest)) := by
  obtain ⟨hexec, hb, -, hown, hts⟩ := S
  obtain ⟨i, rfl⟩ : ∃ i : Nat, a = i := ⟨a.toNat, by omega⟩
  subst hk'
  obtain ⟨f1, f2, f3, f4⟩ := hf
  subst f4
  have hap := va_apart (own := own) hts hin ty0 hty hnm hK hc
  obtain ⟨⟨hz, hcs, hrg⟩, hS0⟩ := hw
  have hi0 : i < n := by omega
  obtain ⟨cell, q1, q2, q3, q4⟩ := (hcs i hi0).1 (by rw [hk]; exact f3)
  rw [hk] at q2 q4
  rw [f2] at q4
  obtain ⟨hS, hfc, kC, hkC, hkind⟩ := hK.1 _ _ hc
  obtain ⟨cf, kf, fi, f, hi, hsl⟩ := hS k f1
  have hlay := hts _ (hin _ (u_in_lay f1))
  unfold u_lay at hlay
  rw [if_neg (by rw [hfin]; decide)] at hlay
  have hst := (u_facts hfc hkC (u_lays hts hin f1) hi).1
  have h6 := u_store hfc hkC hkind hlay hi (hty k f1) hfit.1 hfit.2
  refine W.putK hexec hb (f := f) ⟨hown, hlink, ⟨_, _, _, hi⟩, hst⟩ (by rw [q2]; exact h6) q1 q3 (by rw [hsl]; exact k2_hasslot (q4 k f1)) rfl rfl hdg fun H' e1 e2 e3 => ?_
  rw [hsl] at e1 ⊢
  have e3' : ∀ q : Nat, q ≠ G.2.2.2.2 + i → H'[q]? = H[q]? := e3
  refine kk H' _ ⟨sk_H.set ⟨hz, hcs, hrg⟩ hi0 hv e2 e3' ⟨fun _ => ?_, fun q => ?_, fun q => ?_, fun q => ?_⟩, hS0.put e2 e3 (Nat.le_add_right _ _)⟩
  · rw [hk, f2]
    refine t_OB.to (V := updV (fld G B (I i) i) k (.int (iI v))) ⟨_, e1, q2, q3, t_set q4 hap f1 _⟩ (fun j hj => ?_)
    unfold updV fld
    by_cases hjk : j = k
    · subst hjk
      rw [if_pos rfl, hk, hr]
      simp [up]
    · rw [if_neg hjk]
      have hj2 : (j : Int) ≠ (k : Int) := by omega
      simp [up, hj2]
  all_goals (rw [hk] at q; omega)
theorem sk_ild (S : CallFix p m c cc nL s args Ts own) (hK : va_K G.1 vwCl (sk_tys G) s) (hw : sk_W G n B I s H locs) (hk : kd a = 13) (ha : 0 ≤ a ∧ a < n) {i : Int} (hi : 0 ≤ i ∧ i < ln a) (hdg : decode cc pc = .ok (.iaload, 1))
    (kk : W p l e R s m args below meth c H locs cells slots Q (F0 m (pc + 1) ls (.int (iI (I a i)) :: rest))) : W p l e R s m args below meth c H locs cells slots Q (F0 m pc ls (.int (iI i) :: .ref (sk_ad G a) :: rest)) := by
  obtain ⟨hexec, hb, -, hown, hts⟩ := S
  obtain ⟨j, rfl⟩ : ∃ j : Nat, a = j := ⟨a.toNat, by omega⟩
  have hc := (hw.1.2.1 j (by omega)).2.1 hk
  have hr := ln_r (j : Int)
  have hri : rI i := ⟨by omega, by omega⟩
  have hin := iI_in hi hri
  have hlt : (iI i).toNatClampNeg < (ln j).toNat := Nat.not_le.mp fun q => hin (Or.inr q)
  have hh := hK.2 0 _ rfl
  refine W.iald (v := .int (iI (I j i))) hexec hb hc (hh.1 _ _) (fun q => by cases q) (by show ¬ (iI i < 0 ∨ (arrV _ _ _).slots.size ≤ _); rw [arrV_size]; exact hin) (by show (arrV _ _ _).slots[_]? = _; rw [arrV_read _ _ hlt, iI_cl hri hi.1, Int.toNat_of_nonneg hi.1]) rfl rfl hdg kk
theorem sk_ist (S : CallFix p m c cc nL s args Ts own) (hK : va_K G.1 vwCl (sk_tys G) s) (hw : sk_W G n B I s H locs) (hk : kd a = 13) (ha : 0 ≤ a ∧ a < n) {i v : Int} (hi : 0 ≤ i ∧ i < ln a) (hv : rI v) (hdg : decode cc pc = .ok (.iastore, 1))
    (kk : ∀ (H1 : Heap) (locs1 : List Loc), sk_W G n B (up I a i v) s H1 locs1 → W p l e R s m args below meth c H1 locs1 cells slots Q (F0 m (pc + 1) ls rest)) : W p l e R s m args below meth c H locs cells slots Q (F0 m pc ls (.int (iI v) :: .int (iI i) :: .ref (sk_ad G a) :: rest)) := by
  obtain ⟨hexec, hb, -, hown, hts⟩ := S
  obtain ⟨j, rfl⟩ : ∃ j : Nat, a = j := ⟨a.toNat, by omega⟩
  have hj : j < n := by omega
  have hc := (hw.1.2.1 j hj).2.1 hk
  have hr := ln_r (j : Int)
  have hri : rI i := ⟨by omega, by omega⟩
  have hin := iI_in hi hri
  have hh := hK.2 0 _ rfl
  refine W.iast hexec hb hc (hh.1 _ _) (fun q => by cases q) (by show ¬ (iI i < 0 ∨ (arrV _ _ _).slots.size ≤ _); rw [arrV_size]; exact hin) rfl rfl hdg fun H1 e z oq => ?_
  have oq' : ∀ q : Nat, q ≠ G.2.2.2.2 + j → H1[q]? = H[q]? := oq
  refine kk H1 _ ⟨hw.1.set hj hv z oq' ⟨fun q => ?_, fun q => ?_, fun q => ?_, fun q => ?_⟩, hw.2.put z oq (Nat.le_add_right _ _)⟩
  · rw [hk] at q; omega
  · have e' : H1[G.2.2.2.2 + j]? = _ := e
    rw [e', arrV_store]
    congr 2
    funext q
    unfold updV
    rw [iI_cl hri hi.1]
    by_cases hq : q = i.toNat
    · subst hq
      rw [if_pos rfl]
      simp [up, Int.toNat_of_nonneg hi.1]
    · rw [if_neg hq]
      have h2 : (q : Int) ≠ i := by omega
      simp [up, h2]
  · rw [hk] at q; omega
  · rw [hk] at q; omega
theorem sk_len (S : CallFix p m c cc nL s args Ts own) (hK : va_K G.1 vwCl (sk_tys G) s) (hw : sk_W G n B I s H locs) (hk : kd a = 13 ∨ kd a = 14 ∨ kd a = 15) (ha : 0 ≤ a ∧ a < n) (hdg : decode cc pc = .ok (.arraylength, 1))
    (kk : W p l e R s m args below meth c H locs cells slots Q (F0 m (pc + 1) ls (.int (iI (ln a)) :: rest))) : W p l e R s m args below meth c H locs cells slots Q (F0 m pc ls (.ref (sk_ad G a) :: rest)) := by
  obtain ⟨hexec, hb, -, hown, hts⟩ := S
  obtain ⟨j, rfl⟩ : ∃ j : Nat, a = j := ⟨a.toNat, by omega⟩
  have hj : j < n := by omega
  have hr := ln_r (j : Int)
  have hz : ∀ cA V, (arrV cA (ln j).toNat V).slots.size.toInt32 = iI (ln j) := fun cA V => by
    rw [arrV_size]
    show Int32.ofNat _ = Int32.ofInt _
    rw [← Int32.ofInt_eq_ofNat, Int.toNat_of_nonneg hr.2]
  rcases hk with hk | hk | hk
  · exact W.alen hexec hb ((hw.1.2.1 j hj).2.1 hk) ((hK.2 0 _ rfl).1 _ _) (hz _ _) rfl rfl hdg kk
  · exact W.alen hexec hb ((hw.1.2.1 j hj).2.2.1 hk) ((hK.2 1 _ rfl).1 _ _) (hz _ _) rfl rfl hdg kk
  · exact W.alen hexec hb ((hw.1.2.1 j hj).2.2.2 hk) ((hK.2 2 _ rfl).1 _ _) (hz _ _) rfl rfl hdg kk
theorem sk_ald (S : CallFix p m c cc nL s args Ts own) (hK : va_K G.1 vwCl (sk_tys G) s) (hw : sk_W G n B I s H locs) (hk : kd a = 14 ∨ kd a = 15) (ha : 0 ≤ a ∧ a < n) {i b : Int} (hi : 0 ≤ i ∧ i < ln a) (hB : B a i = true) (hrf : rf a i = b) (hdg : decode cc pc = .ok (.aaload, 1))
    (kk : W p l e R s m args below meth c H locs cells slots Q (F0 m (pc + 1) ls (.ref (sk_ad G b) :: rest))) : W p l e R s m args below meth c H locs cells slots Q (F0 m pc ls (.int (iI i) :: .ref (sk_ad G a) :: rest)) := by
  obtain ⟨hexec, hb, -, hown, hts⟩ := S
  obtain ⟨j, rfl⟩ : ∃ j : Nat, a = j := ⟨a.toNat, by omega⟩
  have hj : j < n := by omega
  have hr := ln_r (j : Int)
  have hri : rI i := ⟨by omega, by omega⟩
  have hin := iI_in hi hri
  have hlt : (iI i).toNatClampNeg < (ln j).toNat := Nat.not_le.mp fun q => hin (Or.inr q)
  have hv : ∀ cA, (arrV cA (ln j).toNat (fun q => if B j q = true then Value.ref (sk_ad G (rf j q)) else .null)).slots[(iI i).toNatClampNeg]? = some (.ref (sk_ad G b)) := fun cA => by
    rw [arrV_read _ _ hlt, iI_cl hri hi.1, Int.toNat_of_nonneg hi.1, hB, if_pos rfl, hrf]
  rcases hk with hk | hk
  · exact W.aald (v := .ref (sk_ad G b)) (ty := .object "SkyLights$Places") hexec hb ((hw.1.2.1 j hj).2.2.1 hk) ((hK.2 1 _ rfl).1 _ _) rfl (fun q => by cases q) (by show ¬ (iI i < 0 ∨ (arrV _ _ _).slots.size ≤ _); rw [arrV_size]; exact hin) (hv _) rfl rfl hdg kk
  · exact W.aald (v := .ref (sk_ad G b)) (ty := .object "SkyLights$Scene") hexec hb ((hw.1.2.1 j hj).2.2.2 hk) ((hK.2 2 _ rfl).1 _ _) rfl (fun q => by cases q) (by show ¬ (iI i < 0 ∨ (arrV _ _ _).slots.size ≤ _); rw [arrV_size]; exact hin) (hv _) rfl rfl hdg kk
theorem sk_recv (hK : va_K G.1 vwCl (sk_tys G) s) (hw : sk_W G n B I s H locs) (hk : kd a = ci) (ha : 0 ≤ a ∧ a < n) (h13 : ci < 13) {q : vw_C} (hc : vwCl[ci]? = some q) : ∃ cell : Cell, H[sk_ad G a]? = some cell ∧ cell.vm.isStatics = false ∧ s.vm.findClass q.1 = some cell.cls := by
  obtain ⟨i, rfl⟩ : ∃ i : Nat, a = i := ⟨a.toNat, by omega⟩
  subst hk
  obtain ⟨cell, q1, q2, q3, q4⟩ := (hw.1.2.1 i (by omega)).1 h13
  exact ⟨cell, q1, by rw [q3]; rfl, by rw [q2]; exact (hK.1 _ q hc).2.1⟩
end SKR
end
section
/-! ===== rows for whole numbers, calls and ends ===== -/
abbrev sk_S : Type := Int → Int → Int
def sk_Qi (G : sk_G) (n : Nat) (B : Int → Int → Bool) (Q : Int → sk_S → Prop) : Array Value → State → Outcome → State → Prop := va_Qi (fun (r : Int32) (u : Int × sk_S) => r = iI u.1 ∧ rI u.1 ∧ Q u.1 u.2) (fun u t => sk_U G n B u.2 t) (sk_A G)
def sk_Qz (G : sk_G) (n : Nat) (B : Int → Int → Bool) (Q : Int → sk_S → Prop) : Array Value → State → Outcome → State → Prop := sk_Qi G n B (fun r I => (r = 0 ∨ r = 1) ∧ Q r I)
def sk_Qv (G : sk_G) (n : Nat) (B : Int → Int → Bool) (Q : sk_S → Prop) : Array Value → State → Outcome → State → Prop := va_Qv (fun (u : sk_S) => Q u) (fun u t => sk_U G n B u t) (sk_A G)
def sk_Qr (G : sk_G) (n : Nat) (B : Int → Int → Bool) (ci : Nat) (Q : Int → sk_S → Prop) : Array Value → State → Outcome → State → Prop := va_Qr (fun (u : Int × sk_S) => kd u.1 = ci ∧ Q u.1 u.2) (fun u a t => a = sk_ad G u.1 ∧ sk_U G n B u.2 t) (sk_A G)
theorem sk_blind {G : sk_G} {n : Nat} {B : Int → Int → Bool} {I : sk_S} {av : List Value} : FrameBlind (va_Pc av (sk_U G n B I)) := fun a U g mk q => by
  obtain ⟨q0, q1⟩ := q
  exact ⟨q0, q1.1, va_K.moved (u := U) (U := U.calling g mk a) (Vm.Alike.refl U.vm) q1.2⟩
theorem kd_in {a : Int} {c : Nat} (h : kd a = c) (hc : c < 99 := by decide) : 0 ≤ a ∧ a < ((198 : Nat) : Int) := kd_at h hc
section SKO
variable {p : Program} {l : Launch} {e : Env} {R : Room} {s : State} {m : MethodId} {args : Array Value} {below : List Frame} {meth : Method} {c : Code} {H : Heap} {locs : List Loc} {cells slots : Nat} {Q : State → Prop}
variable {cc : ByteArray} {pc nL : Nat} {ls : Array Slot} {rest : List Value} {Ts : List Cond} {own : String} {G : sk_G} {n : Nat} {B : Int → Int → Bool} {I : sk_S} {a b : Int} {ci : Nat}
theorem sk_nm {x : Int} (k : ∀ y : Int, y = x → W p l e R s m args below meth c H locs cells slots Q (F0 m pc ls (.int (iI y) :: rest))) : W p l e R s m args below meth c H locs cells slots Q (F0 m pc ls (.int (iI x) :: rest)) := k x rfl
theorem sk_nml {x : Int} (k : ∀ y : Int, y = x → W p l e R s m args below meth c H locs cells slots Q (F0 m pc ls (.long (lI y) :: rest))) : W p l e R s m args below meth c H locs cells slots Q (F0 m pc ls (.long (lI x) :: rest)) := k x rfl
theorem sk_iadd (hx : p.tables.exec = Jvm.exec) (hb : c.code = cc) (hd : decode cc pc = .ok (.iadd, 1)) (k : W p l e R s m args below meth c H locs cells slots Q (F0 m (pc + 1) ls (.int (iI (a + b)) :: rest))) : W p l e R s m args below meth c H locs cells slots Q (F0 m pc ls (.int (iI b) :: .int (iI a) :: rest)) := lv_iadd hx hb hd (by rw [iI_add]; exact k)
theorem sk_isub (hx : p.tables.exec = Jvm.exec) (hb : c.code = cc) (hd : decode cc pc = .ok (.isub, 1)) (k : W p l e R s m args below meth c H locs cells slots Q (F0 m (pc + 1) ls (.int (iI (a - b)) :: rest))) : W p l e R s m args below meth c H locs cells slots Q (F0 m pc ls (.int (iI b) :: .int (iI a) :: rest)) := lv_isub hx hb hd (by rw [iI_sub]; exact k)
theorem sk_imul (hx : p.tables.exec = Jvm.exec) (hb : c.code = cc) (hd : decode cc pc = .ok (.imul, 1)) (k : W p l e R s m args below meth c H locs cells slots Q (F0 m (pc + 1) ls (.int (iI (a * b)) :: rest))) : W p l e R s m args below meth c H locs cells slots Q (F0 m pc ls (.int (iI b) :: .int (iI a) :: rest)) := lv_imul hx hb hd (by rw [iI_mul]; exact k)
theorem sk_ineg (hx : p.tables.exec = Jvm.exec) (hb : c.code = cc) (hd : decode cc pc = .ok (.ineg, 1)) (k : W p l e R s m args below meth c H locs cells slots Q (F0 m (pc + 1) ls (.int (iI (-a)) :: rest))) : W p l e R s m args below meth c H locs cells slots Q (F0 m pc ls (.int (iI a) :: rest)) := lv_ineg hx hb hd (by rw [iI_neg]; exact k)
theorem sk_idiv (hx : p.tables.exec = Jvm.exec) (hb : c.code = cc) (hr : rI b) (h0 : ¬ b = 0) (hd : decode cc pc = .ok (.idiv, 1)) (k : W p l e R s m args below meth c H locs cells slots Q (F0 m (pc + 1) ls (.int (iI (idiv a b)) :: rest))) : W p l e R s m args below meth c H locs cells slots Q (F0 m pc ls (.int (iI b) :: .int (iI a) :: rest)) := lv_idiv hx hb hd (fun q => h0 ((iI_eq hr (by decide : rI 0)).1 q)) (by unfold idiv at k; rw [iI_of] at k; exact k)
theorem sk_iand (hx : p.tables.exec = Jvm.exec) (hb : c.code = cc) (hd : decode cc pc = .ok (.iand, 1)) (k : W p l e R s m args below meth c H locs cells slots Q (F0 m (pc + 1) ls (.int (iI (iand a b)) :: rest))) : W p l e R s m args below meth c H locs cells slots Q (F0 m pc ls (.int (iI b) :: .int (iI a) :: rest)) := lv_iand hx hb hd (by unfold iand at k; rw [iI_of] at k; exact k)
theorem sk_ior (hx : p.tables.exec = Jvm.exec) (hb : c.code = cc) (hd : decode cc pc = .ok (.ior, 1)) (k : W p l e R s m args below meth c H locs cells slots Q (F0 m (pc + 1) ls (.int (iI (ior a b)) :: rest))) : W p l e R s m args below meth c H locs cells slots Q (F0 m pc ls (.int (iI b) :: .int (iI a) :: rest)) := lv_ior hx hb hd (by unfold ior at k; rw [iI_of] at k; exact k)
theorem sk_ishl (hx : p.tables.exec = Jvm.exec) (hb : c.code = cc) (hd : decode cc pc = .ok (.ishl, 1)) (k : W p l e R s m args below meth c H locs cells slots Q (F0 m (pc + 1) ls (.int (iI (ishl a b)) :: rest))) : W p l e R s m args below meth c H locs cells slots Q (F0 m pc ls (.int (iI b) :: .int (iI a) :: rest)) := lv_ishl hx hb hd (by unfold ishl at k; rw [iI_of] at k; exact k)
theorem sk_ishr (hx : p.tables.exec = Jvm.exec) (hb : c.code = cc) (hd : decode cc pc = .ok (.ishr, 1)) (k : W p l e R s m args below meth c H locs cells slots Q (F0 m (pc + 1) ls (.int (iI (ishr a b)) :: rest))) : W p l e R s m args below meth c H locs cells slots Q (F0 m pc ls (.int (iI b) :: .int (iI a) :: rest)) := lv_ishr hx hb hd (by unfold ishr at k; rw [iI_of] at k; exact k)
theorem sk_iushr (hx : p.tables.exec = Jvm.exec) (hb : c.code = cc) (hd : decode cc pc = .ok (.iushr, 1)) (k : W p l e R s m args below meth c H locs cells slots Q (F0 m (pc + 1) ls (.int (iI (iushr a b)) :: rest))) : W p l e R s m args below meth c H locs cells slots Q (F0 m pc ls (.int (iI b) :: .int (iI a) :: rest)) := lv_iushr hx hb hd (iI_of _).symm k
theorem sk_i2l (hx : p.tables.exec = Jvm.exec) (hb : c.code = cc) (hr : rI a) (hd : decode cc pc = .ok (.i2l, 1)) (k : W p l e R s m args below meth c H locs cells slots Q (F0 m (pc + 1) ls (.long (lI a) :: rest))) : W p l e R s m args below meth c H locs cells slots Q (F0 m pc ls (.int (iI a) :: rest)) := lv_i2l hx hb hd (iI_l hr) k
theorem sk_l2i (hx : p.tables.exec = Jvm.exec) (hb : c.code = cc) (hd : decode cc pc = .ok (.l2i, 1)) (k : W p l e R s m args below meth c H locs cells slots Q (F0 m (pc + 1) ls (.int (iI (l2i a)) :: rest))) : W p l e R s m args below meth c H locs cells slots Q (F0 m pc ls (.long (lI a) :: rest)) := lv_l2i hx hb hd (iI_of _).symm k
theorem sk_ladd (hx : p.tables.exec = Jvm.exec) (hb : c.code = cc) (hd : decode cc pc = .ok (.ladd, 1)) (k : W p l e R s m args below meth c H locs cells slots Q (F0 m (pc + 1) ls (.long (lI (a + b)) :: rest))) : W p l e R s m args below meth c H locs cells slots Q (F0 m pc ls (.long (lI b) :: .long (lI a) :: rest)) := lv_ladd hx hb hd (by rw [lI_add]; exact k)
theorem sk_lsub (hx : p.tables.exec = Jvm.exec) (hb : c.code = cc) (hd : decode cc pc = .ok (.lsub, 1)) (k : W p l e R s m args below meth c H locs cells slots Q (F0 m (pc + 1) ls (.long (lI (a - b)) :: rest))) : W p l e R s m args below meth c H locs cells slots Q (F0 m pc ls (.long (lI b) :: .long (lI a) :: rest)) := lv_lsub hx hb hd (by rw [lI_sub]; exact k)
theorem sk_lmul (hx : p.tables.exec = Jvm.exec) (hb : c.code = cc) (hd : decode cc pc = .ok (.lmul, 1)) (k : W p l e R s m args below meth c H locs cells slots Q (F0 m (pc + 1) ls (.long (lI (a * b)) :: rest))) : W p l e R s m args below meth c H locs cells slots Q (F0 m pc ls (.long (lI b) :: .long (lI a) :: rest)) := lv_lmul hx hb hd (by rw [lI_mul]; exact k)
theorem sk_lneg (hx : p.tables.exec = Jvm.exec) (hb : c.code = cc) (hd : decode cc pc = .ok (.lneg, 1)) (k : W p l e R s m args below meth c H locs cells slots Q (F0 m (pc + 1) ls (.long (lI (-a)) :: rest))) : W p l e R s m args below meth c H locs cells slots Q (F0 m pc ls (.long (lI a) :: rest)) := lv_lneg hx hb hd (by rw [lI_neg]; exact k)
theorem sk_land (hx : p.tables.exec = Jvm.exec) (hb : c.code = cc) (hd : decode cc pc = .ok (.land, 1)) (k : W p l e R s m args below meth c H locs cells slots Q (F0 m (pc + 1) ls (.long (lI (land a b)) :: rest))) : W p l e R s m args below meth c H locs cells slots Q (F0 m pc ls (.long (lI b) :: .long (lI a) :: rest)) := lv_land hx hb hd (by unfold land at k; rw [lI_of] at k; exact k)
theorem sk_lor (hx : p.tables.exec = Jvm.exec) (hb : c.code = cc) (hd : decode cc pc = .ok (.lor, 1)) (k : W p l e R s m args below meth c H locs cells slots Q (F0 m (pc + 1) ls (.long (lI (lor a b)) :: rest))) : W p l e R s m args below meth c H locs cells slots Q (F0 m pc ls (.long (lI b) :: .long (lI a) :: rest)) := lv_lor hx hb hd (by unfold lor at k; rw [lI_of] at k; exact k)
theorem sk_lshl (hx : p.tables.exec = Jvm.exec) (hb : c.code = cc) (hd : decode cc pc = .ok (.lshl, 1)) (k : W p l e R s m args below meth c H locs cells slots Q (F0 m (pc + 1) ls (.long (lI (lshl a b)) :: rest))) : W p l e R s m args below meth c H locs cells slots Q (F0 m pc ls (.int (iI b) :: .long (lI a) :: rest)) := lv_lshl hx hb hd (lI_of _).symm k
theorem sk_lshr (hx : p.tables.exec = Jvm.exec) (hb : c.code = cc) (hd : decode cc pc = .ok (.lshr, 1)) (k : W p l e R s m args below meth c H locs cells slots Q (F0 m (pc + 1) ls (.long (lI (lshr a b)) :: rest))) : W p l e R s m args below meth c H locs cells slots Q (F0 m pc ls (.int (iI b) :: .long (lI a) :: rest)) := lv_lshr hx hb hd (lI_of _).symm k
theorem sk_lushr (hx : p.tables.exec = Jvm.exec) (hb : c.code = cc) (hd : decode cc pc = .ok (.lushr, 1)) (k : W p l e R s m args below meth c H locs cells slots Q (F0 m (pc + 1) ls (.long (lI (lushr a b)) :: rest))) : W p l e R s m args below meth c H locs cells slots Q (F0 m pc ls (.int (iI b) :: .long (lI a) :: rest)) := lv_lushr hx hb hd (lI_of _).symm k
/-! branches -/
theorem sk_icmp_eq {off : Int} {tgt : Nat} (hx : p.tables.exec = Jvm.exec) (hb : c.code = cc) (ha : rI a) (hb2 : rI b) (hd : decode cc pc = .ok (.if_icmp .eq off, 3)) (ht : (pc : Int) + off = (tgt : Int)) (kt : a = b → W p l e R s m args below meth c H locs cells slots Q (F0 m tgt ls rest)) (kf : ¬ a = b → W p l e R s m args below meth c H locs cells slots Q (F0 m (pc + 3) ls rest)) : W p l e R s m args below meth c H locs cells slots Q (F0 m pc ls (.int (iI b) :: .int (iI a) :: rest)) := lv_icmp_eq hx hb hd ht (fun h => kt ((iI_eq ha hb2).1 h)) (fun h => kf (fun q => h (by rw [q])))
theorem sk_icmp_ne {off : Int} {tgt : Nat} (hx : p.tables.exec = Jvm.exec) (hb : c.code = cc) (ha : rI a) (hb2 : rI b) (hd : decode cc pc = .ok (.if_icmp .ne off, 3)) (ht : (pc : Int) + off = (tgt : Int)) (kt : ¬ a = b → W p l e R s m args below meth c H locs cells slots Q (F0 m tgt ls rest)) (kf : a = b → W p l e R s m args below meth c H locs cells slots Q (F0 m (pc + 3) ls rest)) : W p l e R s m args below meth c H locs cells slots Q (F0 m pc ls (.int (iI b) :: .int (iI a) :: rest)) := lv_icmp_ne hx hb hd ht (fun h => kt (fun q => h (by rw [q]))) (fun h => kf ((iI_eq ha hb2).1 h))
theorem sk_icmp_lt {off : Int} {tgt : Nat} (hx : p.tables.exec = Jvm.exec) (hb : c.code = cc) (ha : rI a) (hb2 : rI b) (hd : decode cc pc = .ok (.if_icmp .lt off, 3)) (ht : (pc : Int) + off = (tgt : Int)) (kt : a < b → W p l e R s m args below meth c H locs cells slots Q (F0 m tgt ls rest)) (kf : ¬ a < b → W p l e R s m args below meth c H locs cells slots Q (F0 m (pc + 3) ls rest)) : W p l e R s m args below meth c H locs cells slots Q (F0 m pc ls (.int (iI b) :: .int (iI a) :: rest)) := lv_icmp_lt hx hb hd ht (fun h => kt ((iI_lt ha hb2).1 h)) (fun h => kf (fun q => h ((iI_lt ha hb2).2 q)))
theorem sk_icmp_ge {off : Int} {tgt : Nat} (hx : p.tables.exec = Jvm.exec) (hb : c.code = cc) (ha : rI a) (hb2 : rI b) (hd : decode cc pc = .ok (.if_icmp .ge off, 3)) (ht : (pc : Int) + off = (tgt : Int)) (kt : b ≤ a → W p l e R s m args below meth c H locs cells slots Q (F0 m tgt ls rest)) (kf : ¬ b ≤ a → W p l e R s m args below meth c H locs cells slots Q (F0 m (pc + 3) ls rest)) : W p l e R s m args below meth c H locs cells slots Q (F0 m pc ls (.int (iI b) :: .int (iI a) :: rest)) := lv_icmp_ge hx hb hd ht (fun h => kt ((iI_le hb2 ha).1 h)) (fun h => kf (fun q => h ((iI_le hb2 ha).2 q)))
theorem sk_icmp_gt {off : Int} {tgt : Nat} (hx : p.tables.exec = Jvm.exec) (hb : c.code = cc) (ha : rI a) (hb2 : rI b) (hd : decode cc pc = .ok (.if_icmp .gt off, 3)) (ht : (pc : Int) + off = (tgt : Int)) (kt : b < a → W p l e R s m args below meth c H locs cells slots Q (F0 m tgt ls rest)) (kf : ¬ b < a → W p l e R s m args below meth c H locs cells slots Q (F0 m (pc + 3) ls rest)) : W p l e R s m args below meth c H locs cells slots Q (F0 m pc ls (.int (iI b) :: .int (iI a) :: rest)) := lv_icmp_gt hx hb hd ht (fun h => kt ((iI_lt hb2 ha).1 h)) (fun h => kf (fun q => h ((iI_lt hb2 ha).2 q)))
theorem sk_icmp_le {off : Int} {tgt : Nat} (hx : p.tables.exec = Jvm.exec) (hb : c.code = cc) (ha : rI a) (hb2 : rI b) (hd : decode cc pc = .ok (.if_icmp .le off, 3)) (ht : (pc : Int) + off = (tgt : Int)) (kt : a ≤ b → W p l e R s m args below meth c H locs cells slots Q (F0 m tgt ls rest)) (kf : ¬ a ≤ b → W p l e R s m args below meth c H locs cells slots Q (F0 m (pc + 3) ls rest)) : W p l e R s m args below meth c H locs cells slots Q (F0 m pc ls (.int (iI b) :: .int (iI a) :: rest)) := lv_icmp_le hx hb hd ht (fun h => kt ((iI_le ha hb2).1 h)) (fun h => kf (fun q => h ((iI_le ha hb2).2 q)))
theorem rI0 : rI 0 := by decide
theorem sk_if_eq {off : Int} {tgt : Nat} (hx : p.tables.exec = Jvm.exec) (hb : c.code = cc) (ha : rI a) (hd : decode cc pc = .ok (.ifCond .eq off, 3)) (ht : (pc : Int) + off = (tgt : Int)) (kt : a = 0 → W p l e R s m args below meth c H locs cells slots Q (F0 m tgt ls rest)) (kf : ¬ a = 0 → W p l e R s m args below meth c H locs cells slots Q (F0 m (pc + 3) ls rest)) : W p l e R s m args below meth c H locs cells slots Q (F0 m pc ls (.int (iI a) :: rest)) := lv_if_eq hx hb hd ht (fun h => kt ((iI_eq ha rI0).1 h)) (fun h => kf (fun q => h (by rw [q]; rfl)))
theorem sk_if_ne {off : Int} {tgt : Nat} (hx : p.tables.exec = Jvm.exec) (hb : c.code = cc) (ha : rI a) (hd : decode cc pc = .ok (.ifCond .ne off, 3)) (ht : (pc : Int) + off = (tgt : Int)) (kt : ¬ a = 0 → W p l e R s m args below meth c H locs cells slots Q (F0 m tgt ls rest)) (kf : a = 0 → W p l e R s m args below meth c H locs cells slots Q (F0 m (pc + 3) ls rest)) : W p l e R s m args below meth c H locs cells slots Q (F0 m pc ls (.int (iI a) :: rest)) := lv_if_ne hx hb hd ht (fun h => kt (fun q => h (by rw [q]; rfl))) (fun h => kf ((iI_eq ha rI0).1 h))
theorem sk_if_lt {off : Int} {tgt : Nat} (hx : p.tables.exec = Jvm.exec) (hb : c.code = cc) (ha : rI a) (hd : decode cc pc = .ok (.ifCond .lt off, 3)) (ht : (pc : Int) + off = (tgt : Int)) (kt : a < 0 → W p l e R s m args below meth c H locs cells slots Q (F0 m tgt ls rest)) (kf : ¬ a < 0 → W p l e R s m args below meth c H locs cells slots Q (F0 m (pc + 3) ls rest)) : W p l e R s m args below meth c H locs cells slots Q (F0 m pc ls (.int (iI a) :: rest)) := lv_if_lt hx hb hd ht (fun h => kt ((iI_lt ha rI0).1 h)) (fun h => kf (fun q => h ((iI_lt ha rI0).2 q)))
theorem sk_if_ge {off : Int} {tgt : Nat} (hx : p.tables.exec = Jvm.exec) (hb : c.code = cc) (ha : rI a) (hd : decode cc pc = .ok (.ifCond .ge off, 3)) (ht : (pc : Int) + off = (tgt : Int)) (kt : 0 ≤ a → W p l e R s m args below meth c H locs cells slots Q (F0 m tgt ls rest)) (kf : ¬ 0 ≤ a → W p l e R s m args below meth c H locs cells slots Q (F0 m (pc + 3) ls rest)) : W p l e R s m args below meth c H locs cells slots Q (F0 m pc ls (.int (iI a) :: rest)) := lv_if_ge hx hb hd ht (fun h => kt ((iI_le rI0 ha).1 h)) (fun h => kf (fun q => h ((iI_le rI0 ha).2 q)))
theorem sk_if_gt {off : Int} {tgt : Nat} (hx : p.tables.exec = Jvm.exec) (hb : c.code = cc) (ha : rI a) (hd : decode cc pc = .ok (.ifCond .gt off, 3)) (ht : (pc : Int) + off = (tgt : Int)) (kt : 0 < a → W p l e R s m args below meth c H locs cells slots Q (F0 m tgt ls rest)) (kf : ¬ 0 < a → W p l e R s m args below meth c H locs cells slots Q (F0 m (pc + 3) ls rest)) : W p l e R s m args below meth c H locs cells slots Q (F0 m pc ls (.int (iI a) :: rest)) := lv_if_gt hx hb hd ht (fun h => kt ((iI_lt rI0 ha).1 h)) (fun h => kf (fun q => h ((iI_lt rI0 ha).2 q)))
theorem sk_if_le {off : Int} {tgt : Nat} (hx : p.tables.exec = Jvm.exec) (hb : c.code = cc) (ha : rI a) (hd : decode cc pc = .ok (.ifCond .le off, 3)) (ht : (pc : Int) + off = (tgt : Int)) (kt : a ≤ 0 → W p l e R s m args below meth c H locs cells slots Q (F0 m tgt ls rest)) (kf : ¬ a ≤ 0 → W p l e R s m args below meth c H locs cells slots Q (F0 m (pc + 3) ls rest)) : W p l e R s m args below meth c H locs cells slots Q (F0 m pc ls (.int (iI a) :: rest)) := lv_if_le hx hb hd ht (fun h => kt ((iI_le ha rI0).1 h)) (fun h => kf (fun q => h ((iI_le ha rI0).2 q)))
def lcmp (a b : Int) : Int := if a < b then -1 else if a = b then 0 else 1
theorem rI_lcmp (a b : Int) : rI (lcmp a b) := by unfold lcmp; split <;> (try split) <;> decide
theorem sk_lcmp (hx : p.tables.exec = Jvm.exec) (hb : c.code = cc) (ha : rL a) (hb2 : rL b) (hd : decode cc pc = .ok (.lcmp, 1)) (k : W p l e R s m args below meth c H locs cells slots Q (F0 m (pc + 1) ls (.int (iI (lcmp a b)) :: rest))) : W p l e R s m args below meth c H locs cells slots Q (F0 m pc ls (.long (lI b) :: .long (lI a) :: rest)) := by
  refine W.lcmp hx hb hd ?_
  rw [show lg_cmp (lI a) (lI b) = iI (lcmp a b) from ?_]
  · exact k
  · unfold lg_cmp lcmp
    by_cases h1 : a < b
    · have h2 : ¬ b < a := by omega
      have h3 : ¬ a = b := by omega
      rw [if_neg (fun q => h2 ((lI_lt hb2 ha).1 q)), if_neg (fun q => h3 ((lI_eq ha hb2).1 q)), if_pos h1]
      rfl
    · by_cases h3 : a = b
      · subst h3
        simp
        rfl
      · have h2 : b < a := by omega
        rw [if_pos ((lI_lt hb2 ha).2 h2), if_neg h1, if_neg h3]
        rfl
theorem lcmp_lt {a b : Int} : lcmp a b < 0 ↔ a < b := by unfold lcmp; split <;> (try split) <;> omega
theorem lcmp_ge {a b : Int} : 0 ≤ lcmp a b ↔ b ≤ a := by unfold lcmp; split <;> (try split) <;> omega
theorem lcmp_gt {a b : Int} : 0 < lcmp a b ↔ b < a := by unfold lcmp; split <;> (try split) <;> omega
theorem lcmp_le {a b : Int} : lcmp a b ≤ 0 ↔ a ≤ b := by unfold lcmp; split <;> (try split) <;> omega
theorem lcmp_eq {a b : Int} : lcmp a b = 0 ↔ a = b := by unfold lcmp; split <;> (try split) <;> omega
theorem sk_min (hx : p.tables.exec = Jvm.exec) (hb : c.code = cc) (hml : c.maxLocals = ls.size) {index : Nat} (hown : s.vm.findClass own = some m.cls) (hlink : (Cond.methodLink own index Lib.Math.min.name).before args s = true) (hstat : (Cond.static Lib.Math.min.name).before args s = true) (hini : (Cond.initialized "java/lang/Math").before args s = true) (hcode : (Cond.code Lib.Math.min.name Lib.Math.min.code 2 (some .int)).before args s = true)
    (hf : 1 ≤ R.frames ∧ (rest.map fun v => v.category).sum + 13 ≤ R.locals ∧ cells ≤ R.cells ∧ slots ≤ R.slots) (ha : rI a) (hb2 : rI b) (hdg : decode cc pc = .ok (.invokestatic index, 3)) (kk : W p l e R s m args below meth c H locs cells slots Q (F0 m (pc + 3) ls (.int (iI (imin a b)) :: rest))) : W p l e R s m args below meth c H locs cells slots Q (F0 m pc ls (.int (iI b) :: .int (iI a) :: rest)) := by
  refine va_mmin hx hb hml hown hlink hstat hini hcode hf.1 hf.2.1 hf.2.2.1 hf.2.2.2 hdg ?_
  rw [show (if iI b < iI a then iI b else iI a) = iI (imin a b) from ?_]
  · exact kk
  · unfold imin
    by_cases h : b < a
    · rw [if_pos ((iI_lt hb2 ha).2 h), if_pos h]
    · rw [if_neg (fun q => h ((iI_lt hb2 ha).1 q)), if_neg h]
theorem sk_max (hx : p.tables.exec = Jvm.exec) (hb : c.code = cc) (hml : c.maxLocals = ls.size) {index : Nat} (hown : s.vm.findClass own = some m.cls) (hlink : (Cond.methodLink own index Lib.Math.max.name).before args s = true) (hstat : (Cond.static Lib.Math.max.name).before args s = true) (hini : (Cond.initialized "java/lang/Math").before args s = true) (hcode : (Cond.code Lib.Math.max.name Lib.Math.max.code 2 (some .int)).before args s = true)
    (hf : 1 ≤ R.frames ∧ (rest.map fun v => v.category).sum + 13 ≤ R.locals ∧ cells ≤ R.cells ∧ slots ≤ R.slots) (ha : rI a) (hb2 : rI b) (hdg : decode cc pc = .ok (.invokestatic index, 3)) (kk : W p l e R s m args below meth c H locs cells slots Q (F0 m (pc + 3) ls (.int (iI (imax a b)) :: rest))) : W p l e R s m args below meth c H locs cells slots Q (F0 m pc ls (.int (iI b) :: .int (iI a) :: rest)) := by
  refine va_mmax hx hb hml hown hlink hstat hini hcode hf.1 hf.2.1 hf.2.2.1 hf.2.2.2 hdg ?_
  rw [show (if iI a < iI b then iI b else iI a) = iI (imax a b) from ?_]
  · exact kk
  · unfold imax
    by_cases h : a < b
    · rw [if_pos ((iI_lt ha hb2).2 h), if_pos h]
    · rw [if_neg (fun q => h ((iI_lt ha hb2).1 q)), if_neg h]
theorem sk_tabOut {dflt lo hi : Int} {offs : Array Int} {len tgt : Nat} (hx : p.tables.exec = Jvm.exec) (hb : c.code = cc) (ha : rI a) (h : a < lo ∨ hi < a) (hd : decode cc pc = .ok (.tableswitch dflt lo hi offs, len)) (ht : (pc : Int) + dflt = (tgt : Int)) (k : W p l e R s m args below meth c H locs cells slots Q (F0 m tgt ls rest)) : W p l e R s m args below meth c H locs cells slots Q (F0 m pc ls (.int (iI a) :: rest)) := lv_tableOut hx hb hd (by rw [iI_toInt ha]; exact h) ht k
theorem sk_tabIn {dflt lo hi off : Int} {offs : Array Int} {len tgt : Nat} (hx : p.tables.exec = Jvm.exec) (hb : c.code = cc) (ha : rI a) (h1 : lo ≤ a ∧ a ≤ hi) (ho : offs[(a - lo).toNat]? = some off) (hd : decode cc pc = .ok (.tableswitch dflt lo hi offs, len)) (ht : (pc : Int) + off = (tgt : Int)) (k : W p l e R s m args below meth c H locs cells slots Q (F0 m tgt ls rest)) : W p l e R s m args below meth c H locs cells slots Q (F0 m pc ls (.int (iI a) :: rest)) := lv_tableIn hx hb hd (by rw [iI_toInt ha]; omega) (by rw [iI_toInt ha]; omega) (by rw [iI_toInt ha]; exact ho) ht k
end SKO
section SKC
variable {p : Program} {l : Launch} {e : Env} {R : Room} {s : State} {m : MethodId} {args : Array Value} {below : List Frame} {meth : Method} {c : Code} {H : Heap} {locs : List Loc} {cells slots : Nat} {Q : State → Prop}
variable {cc : ByteArray} {pc nL : Nat} {ls : Array Slot} {rest st0 : List Value} {Ts ws ws' : List Cond} {own C : String} {G : sk_G} {n : Nat} {B : Int → Int → Bool} {I : sk_S} {a b : Int} {ci index maxL na : Nat} {y : MethodName} {bytes : ByteArray} {ret : Option FieldType} {rm : Room} {As : List Value} {free : Addr → Prop} {Pc : Array Value → State → Prop} {Qc : Array Value → State → Outcome → State → Prop}
theorem sk_back (ht : ∀ w ∈ Ts, w.before args s = true) (hM : Met l y ws rm Pc Qc 0 0 free) (hbl : FrameBlind Pc) (hrm : rm.cells = 0 ∧ rm.slots = 0) (hR : rm.frames + 1 ≤ R.frames ∧ 40 + (maxL + 11) + rm.locals ≤ R.locals) (hG : GoodIn Ts ws) (hw : ws = Cond.code y bytes maxL ret :: ws') (hini : (Cond.initialized y.cls).before args s = true) : Back l R p e below s args y 3 40 (PreOf R 0 0 Pc) (PostOf Qc 0 0 free) :=
  back_of (bytes := bytes) (maxL := maxL) (ret := ret) hM hbl hrm.1 hrm.2 hR.1 hR.2 (pay_in ht hG) (by rw [hw]; exact List.mem_cons_self) (fun a' U hW => word_at hW (Or.inl (by first | rfl | simp [Cond.onTables, Cond.keeps, Cond.steady])) hini)
theorem sk_runV (S : CallFix p m c cc nL s args Ts own) (hM : Met l y ws rm Pc Qc 0 0 free) (hbl : FrameBlind Pc) (hG : GoodIn Ts (wsV own index C y ws)) (hw : ws = Cond.code y bytes maxL ret :: ws') (hd : y.cls = C ∧ y.cls ≠ "java/lang/invoke/MethodHandle" ∧ y.cls ≠ "java/lang/invoke/VarHandle" ∧ (parseMethodDescriptor y.desc).map (fun d => d.parameters.length) = some na) (hR : (rm.cells = 0 ∧ rm.slots = 0) ∧ rm.frames + 1 ≤ R.frames ∧ 40 + (maxL + 11) + rm.locals ≤ R.locals) (hrecv : ∃ cell : Cell, H[sk_ad G a]? = some cell ∧ cell.vm.isStatics = false ∧ s.vm.findClass C = some cell.cls) (hp : ∀ U : State, U.heap = H → s.WarmedH U.vm → Pc (Value.ref (sk_ad G a) :: As).toArray U) (hn : As.length = na) (hsize : ls.size = nL) (hstack : st0 = As.reverse ++ .ref (sk_ad G a) :: rest) (hW : (rest.map fun v => v.category).sum ≤ 40) (hdg : decode cc pc = .ok (.invokevirtual index, 3)) (hf : cells ≤ R.cells ∧ slots ≤ R.slots) :
    va_Run p l e R s m args below meth c H locs cells slots 0 0 (F0 m pc ls st0) rest (Qc (Value.ref (sk_ad G a) :: As).toArray) free := by
  obtain ⟨hx, hb, hml, ho, ht⟩ := S
  obtain ⟨hC, hd⟩ := hd
  subst hC
  have ok : ∀ w ∈ wsV own index y.cls y ws, w.before args s = true := fun w h => ht w (hG w h).1
  have hK : Back l R p e below s args y 3 40 (PreOf R 0 0 Pc) (PostOf Qc 0 0 free) := sk_back ht hM hbl hR.1 hR.2 (fun w h => hG w (by unfold wsV; exact List.mem_append_right _ h)) hw (ok _ (by simp [wsV]))
  have hcode : (Cond.code y bytes maxL ret).before args s = true := ok _ (by unfold wsV; rw [hw]; simp)
  obtain ⟨cellB, hcB, hoB, hclB⟩ := hrecv
  have hlen : ∀ sig, parseMethodDescriptor y.desc = some sig → As.length = sig.parameters.length := fun sig h => by
    have h2 := hd.2.2
    rw [h] at h2
    exact hn.trans (Option.some.inj h2).symm
  intro T hT X
  obtain ⟨v, vm₁, ⟨U', l2, c2, s2⟩, hW₁, X', ⟨g', mk, t, L, e1, e2, hq, h1, hL, h2, h3⟩, st⟩ := callV X hx (C := y.cls) (bytes := bytes) (maxL := maxL) (ret := ret) (index := index) ho (ok _ (by simp [wsV])) (ok _ (by simp [wsV])) (ok _ (by simp [wsV])) hcode ⟨hd.1, hd.2.1⟩ hK (by rw [hT]; exact hcB) hoB hclB (g := F0 m pc ls st0) rfl (hsize.trans hml.symm) (argsL := As) (rest := rest) hlen hstack (by simpa using hW) (by rw [hb]; exact hdg)
    (fun vm₁ hW₁ => ⟨hf.1, hf.2, hp (T.setVm vm₁) hT hW₁⟩)
  dsimp only [Pt.U, Pt.locs, Pt.cells, Pt.slots] at X' e1 e2 h1 h2 h3 st
  subst h1; subst h2; subst h3
  exact ⟨v, (T.setVm vm₁).calling g' mk (Value.ref (sk_ad G a) :: As).toArray, t, U', L, hT, X', hL, e1, e2, hq, st⟩
theorem sk_runS (S : CallFix p m c cc nL s args Ts own) (hM : Met l y ws rm Pc Qc 0 0 free) (hbl : FrameBlind Pc) (hG : GoodIn Ts (va_wsS own index y ws)) (hw : ws = Cond.code y bytes maxL ret :: ws') (hd : y.cls ≠ "java/lang/invoke/MethodHandle" ∧ y.cls ≠ "java/lang/invoke/VarHandle" ∧ (parseMethodDescriptor y.desc).map (fun d => d.parameters.length) = some na) (hR : (rm.cells = 0 ∧ rm.slots = 0) ∧ rm.frames + 1 ≤ R.frames ∧ 40 + (maxL + 11) + rm.locals ≤ R.locals) (hp : ∀ U : State, U.heap = H → s.WarmedH U.vm → Pc As.toArray U) (hn : As.length = na) (hsize : ls.size = nL) (hstack : st0 = As.reverse ++ rest) (hW : (rest.map fun v => v.category).sum ≤ 40) (hdg : decode cc pc = .ok (.invokestatic index, 3)) (hf : cells ≤ R.cells ∧ slots ≤ R.slots) :
    va_Run p l e R s m args below meth c H locs cells slots 0 0 (F0 m pc ls st0) rest (Qc As.toArray) free := by
  obtain ⟨hx, hb, hml, ho, ht⟩ := S
  have ok : ∀ w ∈ va_wsS own index y ws, w.before args s = true := fun w h => ht w (hG w h).1
  have hini : (Cond.initialized y.cls).before args s = true := ok _ (by simp [va_wsS])
  have hK : Back l R p e below s args y 3 40 (PreOf R 0 0 Pc) (PostOf Qc 0 0 free) := sk_back ht hM hbl hR.1 hR.2 (fun w h => hG w (by unfold va_wsS; exact List.mem_append_right _ h)) hw hini
  have hcode : (Cond.code y bytes maxL ret).before args s = true := ok _ (by unfold va_wsS; rw [hw]; simp)
  have hlen : ∀ sig, parseMethodDescriptor y.desc = some sig → As.length = sig.parameters.length := fun sig h => by
    have h2 := hd.2.2
    rw [h] at h2
    exact hn.trans (Option.some.inj h2).symm
  intro T hT X
  obtain ⟨v, vm₁, ⟨U', l2, c2, s2⟩, hW₁, X', ⟨g', mk, t, L, e1, e2, hq, h1, hL, h2, h3⟩, st⟩ := callS X hx (bytes := bytes) (maxL := maxL) (ret := ret) (index := index) ho (ok _ (by simp [va_wsS])) (ok _ (by simp [va_wsS])) hini hcode ⟨hd.1, hd.2.1⟩ hK (g := F0 m pc ls st0) rfl (hsize.trans hml.symm) (argsL := As) (rest := rest) hlen hstack (by simpa using hW) (by rw [hb]; exact hdg)
    (fun vm₁ hW₁ => ⟨hf.1, hf.2, hp (T.setVm vm₁) hT hW₁⟩)
  dsimp only [Pt.U, Pt.locs, Pt.cells, Pt.slots] at X' e1 e2 h1 h2 h3 st
  subst h1; subst h2; subst h3
  exact ⟨v, (T.setVm vm₁).calling g' mk As.toArray, t, U', L, hT, X', hL, e1, e2, hq, st⟩
variable {Qp : Int → sk_S → Prop} {Qu : sk_S → Prop} {aa : Array Value}
theorem sk_ci (hr : va_Run p l e R s m args below meth c H locs cells slots 0 0 (F0 m pc ls st0) rest (sk_Qi G n B Qp aa) (sk_A G)) (hw : sk_W G n B I s H locs)
    (kk : ∀ (r : Int) (I : sk_S) (H : Heap) (locs : List Loc), rI r → Qp r I → sk_W G n B I s H locs → W p l e R s m args below meth c H locs cells slots Q (F0 m (pc + 3) ls (.int (iI r) :: rest))) : W p l e R s m args below meth c H locs cells slots Q (F0 m pc ls st0) := by
  refine va_calli hr hw.2 (fun _ _ h => h) (fun _ h => h) (fun r u t H1 locs1 ht hvm hq hB hz hk hS => ?_)
  obtain ⟨h1, h2, h3⟩ := hq
  subst h1
  exact kk u.1 u.2 H1 locs1 h2 h3 ⟨by rw [← ht]; exact hB.1, hS⟩
theorem sk_cv (hr : va_Run p l e R s m args below meth c H locs cells slots 0 0 (F0 m pc ls st0) rest (sk_Qv G n B Qu aa) (sk_A G)) (hw : sk_W G n B I s H locs)
    (kk : ∀ (I : sk_S) (H : Heap) (locs : List Loc), Qu I → sk_W G n B I s H locs → W p l e R s m args below meth c H locs cells slots Q (F0 m (pc + 3) ls rest)) : W p l e R s m args below meth c H locs cells slots Q (F0 m pc ls st0) := by
  refine va_callv hr hw.2 (fun _ _ h => h) (fun _ h => h) (fun u t H1 locs1 ht hvm hq hB hz hk hS => ?_)
  exact kk u H1 locs1 hq ⟨by rw [← ht]; exact hB.1, hS⟩
theorem sk_cr (hr : va_Run p l e R s m args below meth c H locs cells slots 0 0 (F0 m pc ls st0) rest (sk_Qr G n B ci Qp aa) (sk_A G)) (hw : sk_W G n B I s H locs)
    (kk : ∀ (r : Int) (I : sk_S) (H : Heap) (locs : List Loc), kd r = ci → Qp r I → sk_W G n B I s H locs → W p l e R s m args below meth c H locs cells slots Q (F0 m (pc + 3) ls (.ref (sk_ad G r) :: rest))) : W p l e R s m args below meth c H locs cells slots Q (F0 m pc ls st0) := by
  refine va_callr hr hw.2 (fun _ _ h => h) (fun _ h => h) (fun u r t H1 locs1 ht hvm hq hB hz hk hS => ?_)
  obtain ⟨e1, hB⟩ := hB
  subst e1
  exact kk u.1 u.2 H1 locs1 hq.1 hq.2 ⟨by rw [← ht]; exact hB.1, hS⟩
theorem sk_pre (hK : va_K G.1 vwCl (sk_tys G) s) (hw : sk_W G n B I s H locs) {av : List Value} : ∀ U : State, U.heap = H → s.WarmedH U.vm → va_Pc av (sk_U G n B I) av.toArray U := fun U hU hW => ⟨rfl, by rw [hU]; exact hw.1, va_K.moved hW.alike hK⟩
/-! ends -/
theorem sk_iret {v : Int} (hx : p.tables.exec = Jvm.exec) (hb : c.code = cc) (hr : meth.sig.returnType = some .int) (hlocks : meth.locks = false) (hK : va_K G.1 vwCl (sk_tys G) s) (hw : sk_W G n B I s H locs) (hv : rI v) (hq : Qp v I) (hdg : decode cc pc = .ok (.ireturn, 1)) : W p l e R s m args below meth c H locs cells slots (MQ below (sk_Qi G n B Qp) args s cells slots (sk_A G)) (F0 m pc ls [.int (iI v)]) :=
  W.iret hx hb hr (fun t ht hW => ⟨⟨iI v, (v, I), rfl, ⟨rfl, hv, hq⟩, by rw [ht]; exact hw.1, va_K.moved hW.alike hK⟩, hw.2.F ht⟩) hw.2.2.2 hdg hlocks
theorem sk_zret {v : Int} (hx : p.tables.exec = Jvm.exec) (hb : c.code = cc) (hr : meth.sig.returnType = some .boolean) (hlocks : meth.locks = false) (hK : va_K G.1 vwCl (sk_tys G) s) (hw : sk_W G n B I s H locs) (hv : v = 0 ∨ v = 1) (hq : Qp v I) (hdg : decode cc pc = .ok (.ireturn, 1)) : W p l e R s m args below meth c H locs cells slots (MQ below (sk_Qz G n B Qp) args s cells slots (sk_A G)) (F0 m pc ls [.int (iI v)]) :=
  W.zret hx hb hr (by rcases hv with rfl | rfl <;> rfl) (fun t ht hW => ⟨⟨iI v, (v, I), rfl, ⟨rfl, (by rcases hv with h | h <;> rw [h] <;> decide : rI v), hv, hq⟩, by rw [ht]; exact hw.1, va_K.moved hW.alike hK⟩, hw.2.F ht⟩) hw.2.2.2 hdg hlocks
theorem sk_aret {v : Int} {rt : FieldType} (hx : p.tables.exec = Jvm.exec) (hb : c.code = cc) (hr : meth.sig.returnType = some rt) (hrt : ∃ n, rt = .object n) (hlocks : meth.locks = false) (hK : va_K G.1 vwCl (sk_tys G) s) (hw : sk_W G n B I s H locs) (hv : kd v = ci) (hq : Qp v I) (hdg : decode cc pc = .ok (.areturn, 1)) : W p l e R s m args below meth c H locs cells slots (MQ below (sk_Qr G n B ci Qp) args s cells slots (sk_A G)) (F0 m pc ls [.ref (sk_ad G v)]) :=
  W.aret hx hb hr (Or.inl hrt) (Or.inr ⟨_, rfl⟩) (fun t ht hW => ⟨⟨(v, I), sk_ad G v, rfl, ⟨hv, hq⟩, rfl, by rw [ht]; exact hw.1, va_K.moved hW.alike hK⟩, hw.2.F ht⟩) hw.2.2.2 hdg hlocks
theorem sk_vret (hx : p.tables.exec = Jvm.exec) (hb : c.code = cc) (hr : meth.sig.returnType = none) (hlocks : meth.locks = false) (hK : va_K G.1 vwCl (sk_tys G) s) (hw : sk_W G n B I s H locs) (hq : Qu I) (hdg : decode cc pc = .ok (.return_, 1)) : W p l e R s m args below meth c H locs cells slots (MQ below (sk_Qv G n B Qu) args s cells slots (sk_A G)) (F0 m pc ls []) :=
  W.vret hx hb hr (fun t ht hW => ⟨⟨I, rfl, hq, by rw [ht]; exact hw.1, va_K.moved hW.alike hK⟩, hw.2.F ht⟩) hw.2.2.2 hdg hlocks
end SKC
end
