-- ===== PART A: goes FIRST, ahead of the names: the tables' words, and 'selects' of the private methods out of them =====
/-- a private method of a class that the tables say can be made, by its rows of tables_1 -/
def lw_okq (q : MethodName × Nat) : Prop := (q.1.cls ≠ "java/lang/invoke/MethodHandle" ∧ q.1.cls ≠ "java/lang/invoke/VarHandle") ∧ Cond.instantiable q.1.cls q.2 ∈ tables_1 ∧ Cond.privateMethod q.1 ∈ tables_1 ∧ Cond.instanceMethod q.1 ∈ tables_1
theorem lw_p0 : lw_okq (⟨"ElevenYards$Duel", "settleMix", "(I)V"⟩, 8) := ⟨⟨by decide +kernel, by decide +kernel⟩, List.mem_of_getElem? (i := 64) (by decide +kernel), List.mem_of_getElem? (i := 78) (by decide +kernel), List.mem_of_getElem? (i := 79) (by decide +kernel)⟩
theorem lw_p1 : lw_okq (⟨"ElevenYards$Duel", "worstChance", "(IIII)I"⟩, 8) := ⟨⟨by decide +kernel, by decide +kernel⟩, List.mem_of_getElem? (i := 64) (by decide +kernel), List.mem_of_getElem? (i := 82) (by decide +kernel), List.mem_of_getElem? (i := 83) (by decide +kernel)⟩
theorem lw_p2 : lw_okq (⟨"ElevenYards$Duel", "cell", "(III)I"⟩, 8) := ⟨⟨by decide +kernel, by decide +kernel⟩, List.mem_of_getElem? (i := 64) (by decide +kernel), List.mem_of_getElem? (i := 86) (by decide +kernel), List.mem_of_getElem? (i := 87) (by decide +kernel)⟩
theorem lw_p3 : lw_okq (⟨"ElevenYards$Reader", "parseClause", "()V"⟩, 6) := ⟨⟨by decide +kernel, by decide +kernel⟩, List.mem_of_getElem? (i := 30) (by decide +kernel), List.mem_of_getElem? (i := 264) (by decide +kernel), List.mem_of_getElem? (i := 265) (by decide +kernel)⟩
theorem lw_p4 : lw_okq (⟨"ElevenYards$Reader", "sees", "(C)Z"⟩, 6) := ⟨⟨by decide +kernel, by decide +kernel⟩, List.mem_of_getElem? (i := 30) (by decide +kernel), List.mem_of_getElem? (i := 268) (by decide +kernel), List.mem_of_getElem? (i := 269) (by decide +kernel)⟩
theorem lw_p5 : lw_okq (⟨"ElevenYards$Reader", "pass", "(Ljava/lang/String;)V"⟩, 6) := ⟨⟨by decide +kernel, by decide +kernel⟩, List.mem_of_getElem? (i := 30) (by decide +kernel), List.mem_of_getElem? (i := 273) (by decide +kernel), List.mem_of_getElem? (i := 274) (by decide +kernel)⟩
theorem lw_p6 : lw_okq (⟨"ElevenYards$Reader", "passOneOf", "(Ljava/lang/String;)I"⟩, 6) := ⟨⟨by decide +kernel, by decide +kernel⟩, List.mem_of_getElem? (i := 30) (by decide +kernel), List.mem_of_getElem? (i := 326) (by decide +kernel), List.mem_of_getElem? (i := 327) (by decide +kernel)⟩
theorem lw_p7 : lw_okq (⟨"ElevenYards$Reader", "passNumber", "()I"⟩, 6) := ⟨⟨by decide +kernel, by decide +kernel⟩, List.mem_of_getElem? (i := 30) (by decide +kernel), List.mem_of_getElem? (i := 332) (by decide +kernel), List.mem_of_getElem? (i := 333) (by decide +kernel)⟩
theorem lw_p8 : lw_okq (⟨"ElevenYards$Reader", "seesFigure", "()Z"⟩, 6) := ⟨⟨by decide +kernel, by decide +kernel⟩, List.mem_of_getElem? (i := 30) (by decide +kernel), List.mem_of_getElem? (i := 336) (by decide +kernel), List.mem_of_getElem? (i := 337) (by decide +kernel)⟩
theorem lw_p9 : lw_okq (⟨"ElevenYards$Reader", "parseEither", "(I)V"⟩, 6) := ⟨⟨by decide +kernel, by decide +kernel⟩, List.mem_of_getElem? (i := 30) (by decide +kernel), List.mem_of_getElem? (i := 340) (by decide +kernel), List.mem_of_getElem? (i := 341) (by decide +kernel)⟩
theorem lw_p10 : lw_okq (⟨"ElevenYards$Reader", "parseBoth", "(I)V"⟩, 6) := ⟨⟨by decide +kernel, by decide +kernel⟩, List.mem_of_getElem? (i := 30) (by decide +kernel), List.mem_of_getElem? (i := 344) (by decide +kernel), List.mem_of_getElem? (i := 345) (by decide +kernel)⟩
theorem lw_p11 : lw_okq (⟨"ElevenYards$Reader", "parseSingle", "(I)V"⟩, 6) := ⟨⟨by decide +kernel, by decide +kernel⟩, List.mem_of_getElem? (i := 30) (by decide +kernel), List.mem_of_getElem? (i := 348) (by decide +kernel), List.mem_of_getElem? (i := 349) (by decide +kernel)⟩
theorem lw_p12 : lw_okq (⟨"ElevenYards$Reader", "make", "(IIII)V"⟩, 6) := ⟨⟨by decide +kernel, by decide +kernel⟩, List.mem_of_getElem? (i := 30) (by decide +kernel), List.mem_of_getElem? (i := 352) (by decide +kernel), List.mem_of_getElem? (i := 353) (by decide +kernel)⟩
theorem lw_p13 : lw_okq (⟨"ElevenYards", "newPlayer", "(III)LElevenYards$Player;"⟩, 16) := ⟨⟨by decide +kernel, by decide +kernel⟩, List.mem_of_getElem? (i := 22) (by decide +kernel), List.mem_of_getElem? (i := 367) (by decide +kernel), List.mem_of_getElem? (i := 368) (by decide +kernel)⟩
theorem lw_p14 : lw_okq (⟨"ElevenYards", "playerOrNull", "(I)LElevenYards$Player;"⟩, 16) := ⟨⟨by decide +kernel, by decide +kernel⟩, List.mem_of_getElem? (i := 22) (by decide +kernel), List.mem_of_getElem? (i := 492) (by decide +kernel), List.mem_of_getElem? (i := 493) (by decide +kernel)⟩
theorem lw_p15 : lw_okq (⟨"ElevenYards$Duel", "weighOne", "(ILElevenYards$Player;LElevenYards$Player;)V"⟩, 8) := ⟨⟨by decide +kernel, by decide +kernel⟩, List.mem_of_getElem? (i := 64) (by decide +kernel), List.mem_of_getElem? (i := 540) (by decide +kernel), List.mem_of_getElem? (i := 541) (by decide +kernel)⟩
def lw_privs_1 : List (MethodName × Nat) := [(⟨"ElevenYards$Duel", "settleMix", "(I)V"⟩, 8), (⟨"ElevenYards$Duel", "worstChance", "(IIII)I"⟩, 8), (⟨"ElevenYards$Duel", "cell", "(III)I"⟩, 8), (⟨"ElevenYards$Reader", "parseClause", "()V"⟩, 6), (⟨"ElevenYards$Reader", "sees", "(C)Z"⟩, 6), (⟨"ElevenYards$Reader", "pass", "(Ljava/lang/String;)V"⟩, 6), (⟨"ElevenYards$Reader", "passOneOf", "(Ljava/lang/String;)I"⟩, 6), (⟨"ElevenYards$Reader", "passNumber", "()I"⟩, 6), (⟨"ElevenYards$Reader", "seesFigure", "()Z"⟩, 6), (⟨"ElevenYards$Reader", "parseEither", "(I)V"⟩, 6), (⟨"ElevenYards$Reader", "parseBoth", "(I)V"⟩, 6), (⟨"ElevenYards$Reader", "parseSingle", "(I)V"⟩, 6), (⟨"ElevenYards$Reader", "make", "(IIII)V"⟩, 6), (⟨"ElevenYards", "newPlayer", "(III)LElevenYards$Player;"⟩, 16), (⟨"ElevenYards", "playerOrNull", "(I)LElevenYards$Player;"⟩, 16), (⟨"ElevenYards$Duel", "weighOne", "(ILElevenYards$Player;LElevenYards$Player;)V"⟩, 8)]
theorem lw_r1 : ∀ q ∈ lw_privs_1, lw_okq q := List.forall_mem_cons.mpr ⟨lw_p0, List.forall_mem_cons.mpr ⟨lw_p1, List.forall_mem_cons.mpr ⟨lw_p2, List.forall_mem_cons.mpr ⟨lw_p3, List.forall_mem_cons.mpr ⟨lw_p4, List.forall_mem_cons.mpr ⟨lw_p5, List.forall_mem_cons.mpr ⟨lw_p6, List.forall_mem_cons.mpr ⟨lw_p7, List.forall_mem_cons.mpr ⟨lw_p8, List.forall_mem_cons.mpr ⟨lw_p9, List.forall_mem_cons.mpr ⟨lw_p10, List.forall_mem_cons.mpr ⟨lw_p11, List.forall_mem_cons.mpr ⟨lw_p12, List.forall_mem_cons.mpr ⟨lw_p13, List.forall_mem_cons.mpr ⟨lw_p14, List.forall_mem_cons.mpr ⟨lw_p15, fun _ h => absurd h List.not_mem_nil⟩⟩⟩⟩⟩⟩⟩⟩⟩⟩⟩⟩⟩⟩⟩⟩
theorem lw_p16 : lw_okq (⟨"ElevenYards$Duel", "weighGoals", "(I)V"⟩, 8) := ⟨⟨by decide +kernel, by decide +kernel⟩, List.mem_of_getElem? (i := 64) (by decide +kernel), List.mem_of_getElem? (i := 609) (by decide +kernel), List.mem_of_getElem? (i := 610) (by decide +kernel)⟩
theorem lw_p17 : lw_okq (⟨"ElevenYards$Duel", "reduce", "()V"⟩, 8) := ⟨⟨by decide +kernel, by decide +kernel⟩, List.mem_of_getElem? (i := 64) (by decide +kernel), List.mem_of_getElem? (i := 618) (by decide +kernel), List.mem_of_getElem? (i := 619) (by decide +kernel)⟩
theorem lw_p18 : lw_okq (⟨"ElevenYards$Kicks", "placeNext", "(III)V"⟩, 6) := ⟨⟨by decide +kernel, by decide +kernel⟩, List.mem_of_getElem? (i := 124) (by decide +kernel), List.mem_of_getElem? (i := 683) (by decide +kernel), List.mem_of_getElem? (i := 684) (by decide +kernel)⟩
theorem lw_p19 : lw_okq (⟨"ElevenYards$ShootOut", "fillChances", "(LElevenYards$Duel;IIII)V"⟩, 5) := ⟨⟨by decide +kernel, by decide +kernel⟩, List.mem_of_getElem? (i := 150) (by decide +kernel), List.mem_of_getElem? (i := 708) (by decide +kernel), List.mem_of_getElem? (i := 709) (by decide +kernel)⟩
theorem lw_p20 : lw_okq (⟨"ElevenYards$ShootOut", "stepBack", "(II)V"⟩, 5) := ⟨⟨by decide +kernel, by decide +kernel⟩, List.mem_of_getElem? (i := 150) (by decide +kernel), List.mem_of_getElem? (i := 721) (by decide +kernel), List.mem_of_getElem? (i := 722) (by decide +kernel)⟩
theorem lw_p21 : lw_okq (⟨"ElevenYards$ShootOut", "placeKicker", "(III)V"⟩, 5) := ⟨⟨by decide +kernel, by decide +kernel⟩, List.mem_of_getElem? (i := 150) (by decide +kernel), List.mem_of_getElem? (i := 740) (by decide +kernel), List.mem_of_getElem? (i := 741) (by decide +kernel)⟩
theorem lw_p22 : lw_okq (⟨"ElevenYardsModel", "isSide", "(I)Z"⟩, 55) := ⟨⟨by decide +kernel, by decide +kernel⟩, List.mem_of_getElem? (i := 911) (by decide +kernel), List.mem_of_getElem? (i := 1088) (by decide +kernel), List.mem_of_getElem? (i := 1089) (by decide +kernel)⟩
theorem lw_p23 : lw_okq (⟨"ElevenYardsModel", "in", "(III)Z"⟩, 55) := ⟨⟨by decide +kernel, by decide +kernel⟩, List.mem_of_getElem? (i := 911) (by decide +kernel), List.mem_of_getElem? (i := 1092) (by decide +kernel), List.mem_of_getElem? (i := 1093) (by decide +kernel)⟩
theorem lw_p24 : lw_okq (⟨"ElevenYardsModel", "goesText", "(I)Z"⟩, 55) := ⟨⟨by decide +kernel, by decide +kernel⟩, List.mem_of_getElem? (i := 911) (by decide +kernel), List.mem_of_getElem? (i := 1108) (by decide +kernel), List.mem_of_getElem? (i := 1109) (by decide +kernel)⟩
theorem lw_p25 : lw_okq (⟨"ElevenYardsModel", "takesClause", "(I)Z"⟩, 55) := ⟨⟨by decide +kernel, by decide +kernel⟩, List.mem_of_getElem? (i := 911) (by decide +kernel), List.mem_of_getElem? (i := 1112) (by decide +kernel), List.mem_of_getElem? (i := 1113) (by decide +kernel)⟩
theorem lw_p26 : lw_okq (⟨"ElevenYardsModel", "next", "()I"⟩, 55) := ⟨⟨by decide +kernel, by decide +kernel⟩, List.mem_of_getElem? (i := 911) (by decide +kernel), List.mem_of_getElem? (i := 1116) (by decide +kernel), List.mem_of_getElem? (i := 1117) (by decide +kernel)⟩
theorem lw_p27 : lw_okq (⟨"ElevenYardsModel", "takesWord", "(II)Z"⟩, 55) := ⟨⟨by decide +kernel, by decide +kernel⟩, List.mem_of_getElem? (i := 911) (by decide +kernel), List.mem_of_getElem? (i := 1120) (by decide +kernel), List.mem_of_getElem? (i := 1121) (by decide +kernel)⟩
theorem lw_p28 : lw_okq (⟨"ElevenYardsModel", "takes", "(I)Z"⟩, 55) := ⟨⟨by decide +kernel, by decide +kernel⟩, List.mem_of_getElem? (i := 911) (by decide +kernel), List.mem_of_getElem? (i := 1124) (by decide +kernel), List.mem_of_getElem? (i := 1125) (by decide +kernel)⟩
theorem lw_p29 : lw_okq (⟨"ElevenYardsModel", "takesNumber", "()Z"⟩, 55) := ⟨⟨by decide +kernel, by decide +kernel⟩, List.mem_of_getElem? (i := 911) (by decide +kernel), List.mem_of_getElem? (i := 1129) (by decide +kernel), List.mem_of_getElem? (i := 1130) (by decide +kernel)⟩
theorem lw_p30 : lw_okq (⟨"ElevenYardsModel", "isDigit", "()Z"⟩, 55) := ⟨⟨by decide +kernel, by decide +kernel⟩, List.mem_of_getElem? (i := 911) (by decide +kernel), List.mem_of_getElem? (i := 1133) (by decide +kernel), List.mem_of_getElem? (i := 1134) (by decide +kernel)⟩
theorem lw_p31 : lw_okq (⟨"ElevenYardsModel", "takesE", "(I)Z"⟩, 55) := ⟨⟨by decide +kernel, by decide +kernel⟩, List.mem_of_getElem? (i := 911) (by decide +kernel), List.mem_of_getElem? (i := 1137) (by decide +kernel), List.mem_of_getElem? (i := 1138) (by decide +kernel)⟩
def lw_privs_2 : List (MethodName × Nat) := [(⟨"ElevenYards$Duel", "weighGoals", "(I)V"⟩, 8), (⟨"ElevenYards$Duel", "reduce", "()V"⟩, 8), (⟨"ElevenYards$Kicks", "placeNext", "(III)V"⟩, 6), (⟨"ElevenYards$ShootOut", "fillChances", "(LElevenYards$Duel;IIII)V"⟩, 5), (⟨"ElevenYards$ShootOut", "stepBack", "(II)V"⟩, 5), (⟨"ElevenYards$ShootOut", "placeKicker", "(III)V"⟩, 5), (⟨"ElevenYardsModel", "isSide", "(I)Z"⟩, 55), (⟨"ElevenYardsModel", "in", "(III)Z"⟩, 55), (⟨"ElevenYardsModel", "goesText", "(I)Z"⟩, 55), (⟨"ElevenYardsModel", "takesClause", "(I)Z"⟩, 55), (⟨"ElevenYardsModel", "next", "()I"⟩, 55), (⟨"ElevenYardsModel", "takesWord", "(II)Z"⟩, 55), (⟨"ElevenYardsModel", "takes", "(I)Z"⟩, 55), (⟨"ElevenYardsModel", "takesNumber", "()Z"⟩, 55), (⟨"ElevenYardsModel", "isDigit", "()Z"⟩, 55), (⟨"ElevenYardsModel", "takesE", "(I)Z"⟩, 55)]
theorem lw_r2 : ∀ q ∈ lw_privs_2, lw_okq q := List.forall_mem_cons.mpr ⟨lw_p16, List.forall_mem_cons.mpr ⟨lw_p17, List.forall_mem_cons.mpr ⟨lw_p18, List.forall_mem_cons.mpr ⟨lw_p19, List.forall_mem_cons.mpr ⟨lw_p20, List.forall_mem_cons.mpr ⟨lw_p21, List.forall_mem_cons.mpr ⟨lw_p22, List.forall_mem_cons.mpr ⟨lw_p23, List.forall_mem_cons.mpr ⟨lw_p24, List.forall_mem_cons.mpr ⟨lw_p25, List.forall_mem_cons.mpr ⟨lw_p26, List.forall_mem_cons.mpr ⟨lw_p27, List.forall_mem_cons.mpr ⟨lw_p28, List.forall_mem_cons.mpr ⟨lw_p29, List.forall_mem_cons.mpr ⟨lw_p30, List.forall_mem_cons.mpr ⟨lw_p31, fun _ h => absurd h List.not_mem_nil⟩⟩⟩⟩⟩⟩⟩⟩⟩⟩⟩⟩⟩⟩⟩⟩
theorem lw_p32 : lw_okq (⟨"ElevenYardsModel", "takesTest", "()Z"⟩, 55) := ⟨⟨by decide +kernel, by decide +kernel⟩, List.mem_of_getElem? (i := 911) (by decide +kernel), List.mem_of_getElem? (i := 1141) (by decide +kernel), List.mem_of_getElem? (i := 1142) (by decide +kernel)⟩
theorem lw_p33 : lw_okq (⟨"ElevenYardsModel", "place", "(I)I"⟩, 55) := ⟨⟨by decide +kernel, by decide +kernel⟩, List.mem_of_getElem? (i := 911) (by decide +kernel), List.mem_of_getElem? (i := 1145) (by decide +kernel), List.mem_of_getElem? (i := 1146) (by decide +kernel)⟩
theorem lw_p34 : lw_okq (⟨"ElevenYardsModel", "put", "(I)V"⟩, 55) := ⟨⟨by decide +kernel, by decide +kernel⟩, List.mem_of_getElem? (i := 911) (by decide +kernel), List.mem_of_getElem? (i := 1149) (by decide +kernel), List.mem_of_getElem? (i := 1150) (by decide +kernel)⟩
theorem lw_p35 : lw_okq (⟨"ElevenYardsModel", "whole", "()V"⟩, 55) := ⟨⟨by decide +kernel, by decide +kernel⟩, List.mem_of_getElem? (i := 911) (by decide +kernel), List.mem_of_getElem? (i := 1153) (by decide +kernel), List.mem_of_getElem? (i := 1154) (by decide +kernel)⟩
theorem lw_p36 : lw_okq (⟨"ElevenYardsModel", "settle", "(I)V"⟩, 55) := ⟨⟨by decide +kernel, by decide +kernel⟩, List.mem_of_getElem? (i := 911) (by decide +kernel), List.mem_of_getElem? (i := 1157) (by decide +kernel), List.mem_of_getElem? (i := 1158) (by decide +kernel)⟩
theorem lw_p37 : lw_okq (⟨"ElevenYardsModel", "isPlayer", "(I)Z"⟩, 55) := ⟨⟨by decide +kernel, by decide +kernel⟩, List.mem_of_getElem? (i := 911) (by decide +kernel), List.mem_of_getElem? (i := 1169) (by decide +kernel), List.mem_of_getElem? (i := 1170) (by decide +kernel)⟩
theorem lw_p38 : lw_okq (⟨"ElevenYardsModel", "findRest", "()V"⟩, 55) := ⟨⟨by decide +kernel, by decide +kernel⟩, List.mem_of_getElem? (i := 911) (by decide +kernel), List.mem_of_getElem? (i := 1177) (by decide +kernel), List.mem_of_getElem? (i := 1178) (by decide +kernel)⟩
theorem lw_p39 : lw_okq (⟨"ElevenYardsModel", "chanceOf", "(IIIII)I"⟩, 55) := ⟨⟨by decide +kernel, by decide +kernel⟩, List.mem_of_getElem? (i := 911) (by decide +kernel), List.mem_of_getElem? (i := 1181) (by decide +kernel), List.mem_of_getElem? (i := 1182) (by decide +kernel)⟩
theorem lw_p40 : lw_okq (⟨"ElevenYardsModel", "layRest", "(IIII)V"⟩, 55) := ⟨⟨by decide +kernel, by decide +kernel⟩, List.mem_of_getElem? (i := 911) (by decide +kernel), List.mem_of_getElem? (i := 1185) (by decide +kernel), List.mem_of_getElem? (i := 1186) (by decide +kernel)⟩
theorem lw_p41 : lw_okq (⟨"ElevenYardsModel", "arePlayers", "(II)Z"⟩, 55) := ⟨⟨by decide +kernel, by decide +kernel⟩, List.mem_of_getElem? (i := 911) (by decide +kernel), List.mem_of_getElem? (i := 1197) (by decide +kernel), List.mem_of_getElem? (i := 1198) (by decide +kernel)⟩
theorem lw_p42 : lw_okq (⟨"ElevenYardsModel", "isState", "(IIII)Z"⟩, 55) := ⟨⟨by decide +kernel, by decide +kernel⟩, List.mem_of_getElem? (i := 911) (by decide +kernel), List.mem_of_getElem? (i := 1201) (by decide +kernel), List.mem_of_getElem? (i := 1202) (by decide +kernel)⟩
theorem lw_p43 : lw_okq (⟨"ElevenYardsModel", "layState", "(IIII)V"⟩, 55) := ⟨⟨by decide +kernel, by decide +kernel⟩, List.mem_of_getElem? (i := 911) (by decide +kernel), List.mem_of_getElem? (i := 1205) (by decide +kernel), List.mem_of_getElem? (i := 1206) (by decide +kernel)⟩
theorem lw_p44 : lw_okq (⟨"ElevenYardsModel", "layWeights", "(II)V"⟩, 55) := ⟨⟨by decide +kernel, by decide +kernel⟩, List.mem_of_getElem? (i := 911) (by decide +kernel), List.mem_of_getElem? (i := 1209) (by decide +kernel), List.mem_of_getElem? (i := 1210) (by decide +kernel)⟩
theorem lw_p45 : lw_okq (⟨"ElevenYardsModel", "layPlain", "(II)V"⟩, 55) := ⟨⟨by decide +kernel, by decide +kernel⟩, List.mem_of_getElem? (i := 911) (by decide +kernel), List.mem_of_getElem? (i := 1213) (by decide +kernel), List.mem_of_getElem? (i := 1214) (by decide +kernel)⟩
theorem lw_p46 : lw_okq (⟨"ElevenYardsModel", "layFacts", "(I)V"⟩, 55) := ⟨⟨by decide +kernel, by decide +kernel⟩, List.mem_of_getElem? (i := 911) (by decide +kernel), List.mem_of_getElem? (i := 1217) (by decide +kernel), List.mem_of_getElem? (i := 1218) (by decide +kernel)⟩
theorem lw_p47 : lw_okq (⟨"ElevenYardsModel", "sumOf", "(II)I"⟩, 55) := ⟨⟨by decide +kernel, by decide +kernel⟩, List.mem_of_getElem? (i := 911) (by decide +kernel), List.mem_of_getElem? (i := 1221) (by decide +kernel), List.mem_of_getElem? (i := 1222) (by decide +kernel)⟩
def lw_privs_3 : List (MethodName × Nat) := [(⟨"ElevenYardsModel", "takesTest", "()Z"⟩, 55), (⟨"ElevenYardsModel", "place", "(I)I"⟩, 55), (⟨"ElevenYardsModel", "put", "(I)V"⟩, 55), (⟨"ElevenYardsModel", "whole", "()V"⟩, 55), (⟨"ElevenYardsModel", "settle", "(I)V"⟩, 55), (⟨"ElevenYardsModel", "isPlayer", "(I)Z"⟩, 55), (⟨"ElevenYardsModel", "findRest", "()V"⟩, 55), (⟨"ElevenYardsModel", "chanceOf", "(IIIII)I"⟩, 55), (⟨"ElevenYardsModel", "layRest", "(IIII)V"⟩, 55), (⟨"ElevenYardsModel", "arePlayers", "(II)Z"⟩, 55), (⟨"ElevenYardsModel", "isState", "(IIII)Z"⟩, 55), (⟨"ElevenYardsModel", "layState", "(IIII)V"⟩, 55), (⟨"ElevenYardsModel", "layWeights", "(II)V"⟩, 55), (⟨"ElevenYardsModel", "layPlain", "(II)V"⟩, 55), (⟨"ElevenYardsModel", "layFacts", "(I)V"⟩, 55), (⟨"ElevenYardsModel", "sumOf", "(II)I"⟩, 55)]
theorem lw_r3 : ∀ q ∈ lw_privs_3, lw_okq q := List.forall_mem_cons.mpr ⟨lw_p32, List.forall_mem_cons.mpr ⟨lw_p33, List.forall_mem_cons.mpr ⟨lw_p34, List.forall_mem_cons.mpr ⟨lw_p35, List.forall_mem_cons.mpr ⟨lw_p36, List.forall_mem_cons.mpr ⟨lw_p37, List.forall_mem_cons.mpr ⟨lw_p38, List.forall_mem_cons.mpr ⟨lw_p39, List.forall_mem_cons.mpr ⟨lw_p40, List.forall_mem_cons.mpr ⟨lw_p41, List.forall_mem_cons.mpr ⟨lw_p42, List.forall_mem_cons.mpr ⟨lw_p43, List.forall_mem_cons.mpr ⟨lw_p44, List.forall_mem_cons.mpr ⟨lw_p45, List.forall_mem_cons.mpr ⟨lw_p46, List.forall_mem_cons.mpr ⟨lw_p47, fun _ h => absurd h List.not_mem_nil⟩⟩⟩⟩⟩⟩⟩⟩⟩⟩⟩⟩⟩⟩⟩⟩
theorem lw_p48 : lw_okq (⟨"ElevenYardsModel", "holds", "(I)Z"⟩, 55) := ⟨⟨by decide +kernel, by decide +kernel⟩, List.mem_of_getElem? (i := 911) (by decide +kernel), List.mem_of_getElem? (i := 1225) (by decide +kernel), List.mem_of_getElem? (i := 1226) (by decide +kernel)⟩
theorem lw_p49 : lw_okq (⟨"ElevenYardsModel", "looks", "(I)Z"⟩, 55) := ⟨⟨by decide +kernel, by decide +kernel⟩, List.mem_of_getElem? (i := 911) (by decide +kernel), List.mem_of_getElem? (i := 1229) (by decide +kernel), List.mem_of_getElem? (i := 1230) (by decide +kernel)⟩
theorem lw_p50 : lw_okq (⟨"ElevenYardsModel", "bound", "(I)V"⟩, 55) := ⟨⟨by decide +kernel, by decide +kernel⟩, List.mem_of_getElem? (i := 911) (by decide +kernel), List.mem_of_getElem? (i := 1233) (by decide +kernel), List.mem_of_getElem? (i := 1234) (by decide +kernel)⟩
theorem lw_p51 : lw_okq (⟨"ElevenYardsModel", "answer", "(II)V"⟩, 55) := ⟨⟨by decide +kernel, by decide +kernel⟩, List.mem_of_getElem? (i := 911) (by decide +kernel), List.mem_of_getElem? (i := 1237) (by decide +kernel), List.mem_of_getElem? (i := 1238) (by decide +kernel)⟩
theorem lw_p52 : lw_okq (⟨"ElevenYardsModel", "replyOf", "(I)I"⟩, 55) := ⟨⟨by decide +kernel, by decide +kernel⟩, List.mem_of_getElem? (i := 911) (by decide +kernel), List.mem_of_getElem? (i := 1241) (by decide +kernel), List.mem_of_getElem? (i := 1242) (by decide +kernel)⟩
theorem lw_p53 : lw_okq (⟨"ElevenYardsModel", "findOdds", "(III)V"⟩, 55) := ⟨⟨by decide +kernel, by decide +kernel⟩, List.mem_of_getElem? (i := 911) (by decide +kernel), List.mem_of_getElem? (i := 1254) (by decide +kernel), List.mem_of_getElem? (i := 1255) (by decide +kernel)⟩
theorem lw_p54 : lw_okq (⟨"ElevenYardsModel", "sumWeights", "(I)I"⟩, 55) := ⟨⟨by decide +kernel, by decide +kernel⟩, List.mem_of_getElem? (i := 911) (by decide +kernel), List.mem_of_getElem? (i := 1258) (by decide +kernel), List.mem_of_getElem? (i := 1259) (by decide +kernel)⟩
theorem lw_p55 : lw_okq (⟨"ElevenYardsModel", "pressed", "(I)I"⟩, 55) := ⟨⟨by decide +kernel, by decide +kernel⟩, List.mem_of_getElem? (i := 911) (by decide +kernel), List.mem_of_getElem? (i := 1262) (by decide +kernel), List.mem_of_getElem? (i := 1263) (by decide +kernel)⟩
theorem lw_p56 : lw_okq (⟨"ElevenYardsModel", "lower", "()V"⟩, 55) := ⟨⟨by decide +kernel, by decide +kernel⟩, List.mem_of_getElem? (i := 911) (by decide +kernel), List.mem_of_getElem? (i := 1267) (by decide +kernel), List.mem_of_getElem? (i := 1268) (by decide +kernel)⟩
theorem lw_p57 : lw_okq (⟨"ElevenYardsModel", "divisor", "(JJ)J"⟩, 55) := ⟨⟨by decide +kernel, by decide +kernel⟩, List.mem_of_getElem? (i := 911) (by decide +kernel), List.mem_of_getElem? (i := 1271) (by decide +kernel), List.mem_of_getElem? (i := 1272) (by decide +kernel)⟩
theorem lw_p58 : lw_okq (⟨"ElevenYardsModel", "doesOf", "(I)I"⟩, 55) := ⟨⟨by decide +kernel, by decide +kernel⟩, List.mem_of_getElem? (i := 911) (by decide +kernel), List.mem_of_getElem? (i := 1291) (by decide +kernel), List.mem_of_getElem? (i := 1292) (by decide +kernel)⟩
theorem lw_p59 : lw_okq (⟨"ElevenYardsModel", "manyTo", "(I)I"⟩, 55) := ⟨⟨by decide +kernel, by decide +kernel⟩, List.mem_of_getElem? (i := 911) (by decide +kernel), List.mem_of_getElem? (i := 1304) (by decide +kernel), List.mem_of_getElem? (i := 1305) (by decide +kernel)⟩
theorem lw_p60 : lw_okq (⟨"ElevenYardsModel", "areTeams", "()Z"⟩, 55) := ⟨⟨by decide +kernel, by decide +kernel⟩, List.mem_of_getElem? (i := 911) (by decide +kernel), List.mem_of_getElem? (i := 1317) (by decide +kernel), List.mem_of_getElem? (i := 1318) (by decide +kernel)⟩
theorem lw_p61 : lw_okq (⟨"ElevenYardsModel", "layOrder", "()V"⟩, 55) := ⟨⟨by decide +kernel, by decide +kernel⟩, List.mem_of_getElem? (i := 911) (by decide +kernel), List.mem_of_getElem? (i := 1322) (by decide +kernel), List.mem_of_getElem? (i := 1323) (by decide +kernel)⟩
theorem lw_p62 : lw_okq (⟨"ElevenYardsModel", "layChances", "(I)V"⟩, 55) := ⟨⟨by decide +kernel, by decide +kernel⟩, List.mem_of_getElem? (i := 911) (by decide +kernel), List.mem_of_getElem? (i := 1326) (by decide +kernel), List.mem_of_getElem? (i := 1327) (by decide +kernel)⟩
theorem lw_p63 : lw_okq (⟨"ElevenYardsModel", "chanceNow", "(IIII)I"⟩, 55) := ⟨⟨by decide +kernel, by decide +kernel⟩, List.mem_of_getElem? (i := 911) (by decide +kernel), List.mem_of_getElem? (i := 1330) (by decide +kernel), List.mem_of_getElem? (i := 1331) (by decide +kernel)⟩
def lw_privs_4 : List (MethodName × Nat) := [(⟨"ElevenYardsModel", "holds", "(I)Z"⟩, 55), (⟨"ElevenYardsModel", "looks", "(I)Z"⟩, 55), (⟨"ElevenYardsModel", "bound", "(I)V"⟩, 55), (⟨"ElevenYardsModel", "answer", "(II)V"⟩, 55), (⟨"ElevenYardsModel", "replyOf", "(I)I"⟩, 55), (⟨"ElevenYardsModel", "findOdds", "(III)V"⟩, 55), (⟨"ElevenYardsModel", "sumWeights", "(I)I"⟩, 55), (⟨"ElevenYardsModel", "pressed", "(I)I"⟩, 55), (⟨"ElevenYardsModel", "lower", "()V"⟩, 55), (⟨"ElevenYardsModel", "divisor", "(JJ)J"⟩, 55), (⟨"ElevenYardsModel", "doesOf", "(I)I"⟩, 55), (⟨"ElevenYardsModel", "manyTo", "(I)I"⟩, 55), (⟨"ElevenYardsModel", "areTeams", "()Z"⟩, 55), (⟨"ElevenYardsModel", "layOrder", "()V"⟩, 55), (⟨"ElevenYardsModel", "layChances", "(I)V"⟩, 55), (⟨"ElevenYardsModel", "chanceNow", "(IIII)I"⟩, 55)]
theorem lw_r4 : ∀ q ∈ lw_privs_4, lw_okq q := List.forall_mem_cons.mpr ⟨lw_p48, List.forall_mem_cons.mpr ⟨lw_p49, List.forall_mem_cons.mpr ⟨lw_p50, List.forall_mem_cons.mpr ⟨lw_p51, List.forall_mem_cons.mpr ⟨lw_p52, List.forall_mem_cons.mpr ⟨lw_p53, List.forall_mem_cons.mpr ⟨lw_p54, List.forall_mem_cons.mpr ⟨lw_p55, List.forall_mem_cons.mpr ⟨lw_p56, List.forall_mem_cons.mpr ⟨lw_p57, List.forall_mem_cons.mpr ⟨lw_p58, List.forall_mem_cons.mpr ⟨lw_p59, List.forall_mem_cons.mpr ⟨lw_p60, List.forall_mem_cons.mpr ⟨lw_p61, List.forall_mem_cons.mpr ⟨lw_p62, List.forall_mem_cons.mpr ⟨lw_p63, fun _ h => absurd h List.not_mem_nil⟩⟩⟩⟩⟩⟩⟩⟩⟩⟩⟩⟩⟩⟩⟩⟩
theorem lw_p64 : lw_okq (⟨"ElevenYardsModel", "findWin", "()I"⟩, 55) := ⟨⟨by decide +kernel, by decide +kernel⟩, List.mem_of_getElem? (i := 911) (by decide +kernel), List.mem_of_getElem? (i := 1335) (by decide +kernel), List.mem_of_getElem? (i := 1336) (by decide +kernel)⟩
theorem lw_p65 : lw_okq (⟨"ElevenYardsModel", "ended", "(III)I"⟩, 55) := ⟨⟨by decide +kernel, by decide +kernel⟩, List.mem_of_getElem? (i := 911) (by decide +kernel), List.mem_of_getElem? (i := 1339) (by decide +kernel), List.mem_of_getElem? (i := 1340) (by decide +kernel)⟩
theorem lw_p66 : lw_okq (⟨"ElevenYardsModel", "bound5", "(I)I"⟩, 55) := ⟨⟨by decide +kernel, by decide +kernel⟩, List.mem_of_getElem? (i := 911) (by decide +kernel), List.mem_of_getElem? (i := 1345) (by decide +kernel), List.mem_of_getElem? (i := 1346) (by decide +kernel)⟩
theorem lw_p67 : lw_okq (⟨"ElevenYardsModel", "isTape", "(I)Z"⟩, 55) := ⟨⟨by decide +kernel, by decide +kernel⟩, List.mem_of_getElem? (i := 911) (by decide +kernel), List.mem_of_getElem? (i := 1361) (by decide +kernel), List.mem_of_getElem? (i := 1362) (by decide +kernel)⟩
theorem lw_p68 : lw_okq (⟨"ElevenYardsModel", "copy", "([I[I)V"⟩, 55) := ⟨⟨by decide +kernel, by decide +kernel⟩, List.mem_of_getElem? (i := 911) (by decide +kernel), List.mem_of_getElem? (i := 1369) (by decide +kernel), List.mem_of_getElem? (i := 1370) (by decide +kernel)⟩
theorem lw_p69 : lw_okq (⟨"ElevenYardsModel", "looksAct", "(II)I"⟩, 55) := ⟨⟨by decide +kernel, by decide +kernel⟩, List.mem_of_getElem? (i := 911) (by decide +kernel), List.mem_of_getElem? (i := 1381) (by decide +kernel), List.mem_of_getElem? (i := 1382) (by decide +kernel)⟩
theorem lw_p70 : lw_okq (⟨"ElevenYardsModel", "mixedLooks", "(II)I"⟩, 55) := ⟨⟨by decide +kernel, by decide +kernel⟩, List.mem_of_getElem? (i := 911) (by decide +kernel), List.mem_of_getElem? (i := 1385) (by decide +kernel), List.mem_of_getElem? (i := 1386) (by decide +kernel)⟩
theorem lw_p71 : lw_okq (⟨"ElevenYardsModel", "body", "(I)V"⟩, 55) := ⟨⟨by decide +kernel, by decide +kernel⟩, List.mem_of_getElem? (i := 911) (by decide +kernel), List.mem_of_getElem? (i := 1389) (by decide +kernel), List.mem_of_getElem? (i := 1390) (by decide +kernel)⟩
theorem lw_p72 : lw_okq (⟨"ElevenYardsModel", "plainLooks", "(II)I"⟩, 55) := ⟨⟨by decide +kernel, by decide +kernel⟩, List.mem_of_getElem? (i := 911) (by decide +kernel), List.mem_of_getElem? (i := 1393) (by decide +kernel), List.mem_of_getElem? (i := 1394) (by decide +kernel)⟩
theorem lw_p73 : lw_okq (⟨"ElevenYardsModel", "goesAct", "(II)I"⟩, 55) := ⟨⟨by decide +kernel, by decide +kernel⟩, List.mem_of_getElem? (i := 911) (by decide +kernel), List.mem_of_getElem? (i := 1397) (by decide +kernel), List.mem_of_getElem? (i := 1398) (by decide +kernel)⟩
theorem lw_p74 : lw_okq (⟨"ElevenYardsModel", "ownGoes", "(II)I"⟩, 55) := ⟨⟨by decide +kernel, by decide +kernel⟩, List.mem_of_getElem? (i := 911) (by decide +kernel), List.mem_of_getElem? (i := 1401) (by decide +kernel), List.mem_of_getElem? (i := 1402) (by decide +kernel)⟩
theorem lw_p75 : lw_okq (⟨"ElevenYardsModel", "plainGoes", "(II)I"⟩, 55) := ⟨⟨by decide +kernel, by decide +kernel⟩, List.mem_of_getElem? (i := 911) (by decide +kernel), List.mem_of_getElem? (i := 1405) (by decide +kernel), List.mem_of_getElem? (i := 1406) (by decide +kernel)⟩
theorem lw_p76 : lw_okq (⟨"ElevenYardsModel", "tellsAct", "(II)I"⟩, 55) := ⟨⟨by decide +kernel, by decide +kernel⟩, List.mem_of_getElem? (i := 911) (by decide +kernel), List.mem_of_getElem? (i := 1409) (by decide +kernel), List.mem_of_getElem? (i := 1410) (by decide +kernel)⟩
theorem lw_p77 : lw_okq (⟨"ElevenYardsModel", "plainTells", "(II)I"⟩, 55) := ⟨⟨by decide +kernel, by decide +kernel⟩, List.mem_of_getElem? (i := 911) (by decide +kernel), List.mem_of_getElem? (i := 1413) (by decide +kernel), List.mem_of_getElem? (i := 1414) (by decide +kernel)⟩
theorem lw_p78 : lw_okq (⟨"ElevenYardsModel", "narrow", "(IJ)J"⟩, 55) := ⟨⟨by decide +kernel, by decide +kernel⟩, List.mem_of_getElem? (i := 911) (by decide +kernel), List.mem_of_getElem? (i := 1437) (by decide +kernel), List.mem_of_getElem? (i := 1438) (by decide +kernel)⟩
def lw_privs_5 : List (MethodName × Nat) := [(⟨"ElevenYardsModel", "findWin", "()I"⟩, 55), (⟨"ElevenYardsModel", "ended", "(III)I"⟩, 55), (⟨"ElevenYardsModel", "bound5", "(I)I"⟩, 55), (⟨"ElevenYardsModel", "isTape", "(I)Z"⟩, 55), (⟨"ElevenYardsModel", "copy", "([I[I)V"⟩, 55), (⟨"ElevenYardsModel", "looksAct", "(II)I"⟩, 55), (⟨"ElevenYardsModel", "mixedLooks", "(II)I"⟩, 55), (⟨"ElevenYardsModel", "body", "(I)V"⟩, 55), (⟨"ElevenYardsModel", "plainLooks", "(II)I"⟩, 55), (⟨"ElevenYardsModel", "goesAct", "(II)I"⟩, 55), (⟨"ElevenYardsModel", "ownGoes", "(II)I"⟩, 55), (⟨"ElevenYardsModel", "plainGoes", "(II)I"⟩, 55), (⟨"ElevenYardsModel", "tellsAct", "(II)I"⟩, 55), (⟨"ElevenYardsModel", "plainTells", "(II)I"⟩, 55), (⟨"ElevenYardsModel", "narrow", "(IJ)J"⟩, 55)]
theorem lw_r5 : ∀ q ∈ lw_privs_5, lw_okq q := List.forall_mem_cons.mpr ⟨lw_p64, List.forall_mem_cons.mpr ⟨lw_p65, List.forall_mem_cons.mpr ⟨lw_p66, List.forall_mem_cons.mpr ⟨lw_p67, List.forall_mem_cons.mpr ⟨lw_p68, List.forall_mem_cons.mpr ⟨lw_p69, List.forall_mem_cons.mpr ⟨lw_p70, List.forall_mem_cons.mpr ⟨lw_p71, List.forall_mem_cons.mpr ⟨lw_p72, List.forall_mem_cons.mpr ⟨lw_p73, List.forall_mem_cons.mpr ⟨lw_p74, List.forall_mem_cons.mpr ⟨lw_p75, List.forall_mem_cons.mpr ⟨lw_p76, List.forall_mem_cons.mpr ⟨lw_p77, List.forall_mem_cons.mpr ⟨lw_p78, fun _ h => absurd h List.not_mem_nil⟩⟩⟩⟩⟩⟩⟩⟩⟩⟩⟩⟩⟩⟩⟩
def lw_privs : List (MethodName × Nat) := lw_privs_1 ++ (lw_privs_2 ++ (lw_privs_3 ++ (lw_privs_4 ++ (lw_privs_5))))
def lw_tbl : List Cond := k2_sels lw_privs ++ tables_1
theorem lw_privs_ok : ∀ q ∈ lw_privs, lw_okq q := by
  show ∀ q ∈ lw_privs_1 ++ (lw_privs_2 ++ (lw_privs_3 ++ (lw_privs_4 ++ (lw_privs_5)))), lw_okq q
  exact List.forall_mem_append.mpr ⟨lw_r1, List.forall_mem_append.mpr ⟨lw_r2, List.forall_mem_append.mpr ⟨lw_r3, List.forall_mem_append.mpr ⟨lw_r4, lw_r5⟩⟩⟩⟩
def RX0 : String := "ElevenYards$Duel"
def TX0 : u_T := fun k => match k with
  | 0 => ("ElevenYards$Duel", "cells", "[I", true)
  | 1 => ("ElevenYards$Duel", "mixes", "[[I", true)
  | 2 => ("ElevenYards$Duel", "bounds", "[I", true)
  | 3 => ("ElevenYards$Duel", "states", "[[I", true)
  | 4 => ("ElevenYards$Duel", "weights", "[[I", true)
  | 5 => ("ElevenYards$Duel", "pressed", "I", false)
  | 6 => ("ElevenYards$Duel", "above", "J", false)
  | _ => ("ElevenYards$Duel", "below", "J", false)
def tyX0 : Nat → FieldType := fun k => match k with
  | 0 => .array .int
  | 1 => .array (.array .int)
  | 2 => .array .int
  | 3 => .array (.array .int)
  | 4 => .array (.array .int)
  | 5 => .int
  | 6 => .long
  | _ => .long
abbrev wsX00 : List Cond := u_ws RX0 TX0 8
theorem nmX0 : ∀ a, a < 8 → ∀ b, b < 8 → a ≠ b → (TX0 a).2.1 ≠ (TX0 b).2.1 := by decide +kernel
theorem tyX0_ok : ∀ k, k < 8 → parseFieldDescriptor (TX0 k).2.2.1 = some (tyX0 k) := by decide +kernel
abbrev cX0_init : ByteArray := prog_2_method_1_code
def yX0_init : MethodName := ⟨RX0, "<init>", "()V"⟩
abbrev cX0_settleMixes : ByteArray := prog_2_method_2_code
def yX0_settleMixes : MethodName := ⟨RX0, "settleMixes", "()V"⟩
abbrev cX0_settleMix : ByteArray := prog_2_method_3_code
def yX0_settleMix : MethodName := ⟨RX0, "settleMix", "(I)V"⟩
abbrev cX0_worstChance : ByteArray := prog_2_method_4_code
def yX0_worstChance : MethodName := ⟨RX0, "worstChance", "(IIII)I"⟩
abbrev cX0_cell : ByteArray := prog_2_method_5_code
def yX0_cell : MethodName := ⟨RX0, "cell", "(III)I"⟩
abbrev cX0_isBetter : ByteArray := prog_2_method_6_code
def yX0_isBetter : MethodName := ⟨RX0, "isBetter", "(III)Z"⟩
abbrev cX0_setState : ByteArray := prog_2_method_7_code
def yX0_setState : MethodName := ⟨RX0, "setState", "(IIII)V"⟩
abbrev cX0_setSeen : ByteArray := prog_2_method_8_code
def yX0_setSeen : MethodName := ⟨RX0, "setSeen", "([IIIII)V"⟩
abbrev cX0_meet : ByteArray := prog_2_method_9_code
def yX0_meet : MethodName := ⟨RX0, "meet", "(LElevenYards$Player;LElevenYards$Player;)V"⟩
abbrev cX0_weighOne : ByteArray := prog_2_method_10_code
def yX0_weighOne : MethodName := ⟨RX0, "weighOne", "(ILElevenYards$Player;LElevenYards$Player;)V"⟩
abbrev cX0_follow : ByteArray := prog_2_method_11_code
def yX0_follow : MethodName := ⟨RX0, "follow", "([I[I[I)V"⟩
abbrev cX0_holds : ByteArray := prog_2_method_12_code
def yX0_holds : MethodName := ⟨RX0, "holds", "(III)Z"⟩
abbrev cX0_temper : ByteArray := prog_2_method_13_code
def yX0_temper : MethodName := ⟨RX0, "temper", "([I)V"⟩
abbrev cX0_replySide : ByteArray := prog_2_method_14_code
def yX0_replySide : MethodName := ⟨RX0, "replySide", "(I)I"⟩
abbrev cX0_score : ByteArray := prog_2_method_15_code
def yX0_score : MethodName := ⟨RX0, "score", "(LElevenYards$Player;LElevenYards$Player;I)V"⟩
abbrev cX0_scoreBottle : ByteArray := prog_2_method_16_code
def yX0_scoreBottle : MethodName := ⟨RX0, "scoreBottle", "(LElevenYards$Player;LElevenYards$Player;)V"⟩
abbrev cX0_millionths : ByteArray := prog_2_method_17_code
def yX0_millionths : MethodName := ⟨RX0, "millionths", "()I"⟩
abbrev cX0_weighGoals : ByteArray := prog_2_method_18_code
def yX0_weighGoals : MethodName := ⟨RX0, "weighGoals", "(I)V"⟩
abbrev cX0_reduce : ByteArray := prog_2_method_19_code
def yX0_reduce : MethodName := ⟨RX0, "reduce", "()V"⟩
def RX1 : String := "ElevenYards$Kicks"
def TX1 : u_T := fun k => match k with
  | 0 => ("ElevenYards$Kicks", "sides", "[I", true)
  | 1 => ("ElevenYards$Kicks", "goals", "[I", true)
  | 2 => ("ElevenYards$Kicks", "size", "I", false)
  | 3 => ("ElevenYards$Kicks", "toPlace", "[I", true)
  | 4 => ("ElevenYards$Kicks", "allOrders", "I", false)
  | _ => ("ElevenYards$Kicks", "manyRuns", "I", false)
def tyX1 : Nat → FieldType := fun k => match k with
  | 0 => .array .int
  | 1 => .array .int
  | 2 => .int
  | 3 => .array .int
  | 4 => .int
  | _ => .int
abbrev wsX10 : List Cond := u_ws RX1 TX1 6
theorem nmX1 : ∀ a, a < 6 → ∀ b, b < 6 → a ≠ b → (TX1 a).2.1 ≠ (TX1 b).2.1 := by decide +kernel
theorem tyX1_ok : ∀ k, k < 6 → parseFieldDescriptor (TX1 k).2.2.1 = some (tyX1 k) := by decide +kernel
abbrev cX1_init : ByteArray := prog_3_method_1_code
def yX1_init : MethodName := ⟨RX1, "<init>", "()V"⟩
abbrev cX1_addKick : ByteArray := prog_3_method_2_code
def yX1_addKick : MethodName := ⟨RX1, "addKick", "(IZ)V"⟩
abbrev cX1_copyFrom : ByteArray := prog_3_method_3_code
def yX1_copyFrom : MethodName := ⟨RX1, "copyFrom", "(LElevenYards$Kicks;)V"⟩
abbrev cX1_goalsOfThousand : ByteArray := prog_3_method_4_code
def yX1_goalsOfThousand : MethodName := ⟨RX1, "goalsOfThousand", "(I)I"⟩
abbrev cX1_farApart : ByteArray := prog_3_method_5_code
def yX1_farApart : MethodName := ⟨RX1, "farApart", "()I"⟩
abbrev cX1_runs : ByteArray := prog_3_method_6_code
def yX1_runs : MethodName := ⟨RX1, "runs", "()I"⟩
abbrev cX1_runsShare : ByteArray := prog_3_method_7_code
def yX1_runsShare : MethodName := ⟨RX1, "runsShare", "(I)I"⟩
abbrev cX1_placeNext : ByteArray := prog_3_method_8_code
def yX1_placeNext : MethodName := ⟨RX1, "placeNext", "(III)V"⟩
abbrev cX1_commonDivisor : ByteArray := prog_3_method_9_code
def yX1_commonDivisor : MethodName := ⟨RX1, "commonDivisor", "(II)I"⟩
def RX2 : String := "ElevenYards$Mixed"
def TX2 : u_T := fun k => match k with
  | 0 => ("ElevenYards$Player", "kind", "I", true)
  | 1 => ("ElevenYards$Player", "number", "I", true)
  | 2 => ("ElevenYards$Player", "v", "I", true)
  | 3 => ("ElevenYards$Player", "rule", "I", true)
  | 4 => ("ElevenYards$Player", "codes", "[I", true)
  | _ => ("ElevenYards$Player", "log", "[I", true)
def tyX2 : Nat → FieldType := fun k => match k with
  | 0 => .int
  | 1 => .int
  | 2 => .int
  | 3 => .int
  | 4 => .array .int
  | _ => .array .int
abbrev wsX20 : List Cond := u_ws RX2 TX2 6
theorem nmX2 : ∀ a, a < 6 → ∀ b, b < 6 → a ≠ b → (TX2 a).2.1 ≠ (TX2 b).2.1 := by decide +kernel
theorem tyX2_ok : ∀ k, k < 6 → parseFieldDescriptor (TX2 k).2.2.1 = some (tyX2 k) := by decide +kernel
abbrev cX2_init : ByteArray := prog_4_method_1_code
def yX2_init : MethodName := ⟨RX2, "<init>", "(IIII[I[I)V"⟩
abbrev cX2_weigh : ByteArray := prog_4_method_2_code
def yX2_weigh : MethodName := ⟨RX2, "weigh", "([I[III)V"⟩
abbrev cX2_looks : ByteArray := prog_4_method_3_code
def yX2_looks : MethodName := ⟨RX2, "looks", "(I)I"⟩
def RX3 : String := "ElevenYards$Noted"
def TX3 : u_T := fun k => match k with
  | 0 => ("ElevenYards$Player", "kind", "I", true)
  | 1 => ("ElevenYards$Player", "number", "I", true)
  | 2 => ("ElevenYards$Player", "v", "I", true)
  | 3 => ("ElevenYards$Player", "rule", "I", true)
  | 4 => ("ElevenYards$Player", "codes", "[I", true)
  | _ => ("ElevenYards$Player", "log", "[I", true)
def tyX3 : Nat → FieldType := fun k => match k with
  | 0 => .int
  | 1 => .int
  | 2 => .int
  | 3 => .int
  | 4 => .array .int
  | _ => .array .int
abbrev wsX30 : List Cond := u_ws RX3 TX3 6
theorem nmX3 : ∀ a, a < 6 → ∀ b, b < 6 → a ≠ b → (TX3 a).2.1 ≠ (TX3 b).2.1 := by decide +kernel
theorem tyX3_ok : ∀ k, k < 6 → parseFieldDescriptor (TX3 k).2.2.1 = some (tyX3 k) := by decide +kernel
abbrev cX3_init : ByteArray := prog_5_method_1_code
def yX3_init : MethodName := ⟨RX3, "<init>", "(IIII[I[I)V"⟩
abbrev cX3_heeds : ByteArray := prog_5_method_2_code
def yX3_heeds : MethodName := ⟨RX3, "heeds", "()Z"⟩
abbrev cX3_weigh : ByteArray := prog_5_method_3_code
def yX3_weigh : MethodName := ⟨RX3, "weigh", "([I[III)V"⟩
abbrev cX3_tells : ByteArray := prog_5_method_4_code
def yX3_tells : MethodName := ⟨RX3, "tells", "(I)I"⟩
def RX4 : String := "ElevenYards$Own"
def TX4 : u_T := fun k => match k with
  | 0 => ("ElevenYards$Player", "kind", "I", true)
  | 1 => ("ElevenYards$Player", "number", "I", true)
  | 2 => ("ElevenYards$Player", "v", "I", true)
  | 3 => ("ElevenYards$Player", "rule", "I", true)
  | 4 => ("ElevenYards$Player", "codes", "[I", true)
  | _ => ("ElevenYards$Player", "log", "[I", true)
def tyX4 : Nat → FieldType := fun k => match k with
  | 0 => .int
  | 1 => .int
  | 2 => .int
  | 3 => .int
  | 4 => .array .int
  | _ => .array .int
abbrev wsX40 : List Cond := u_ws RX4 TX4 6
theorem nmX4 : ∀ a, a < 6 → ∀ b, b < 6 → a ≠ b → (TX4 a).2.1 ≠ (TX4 b).2.1 := by decide +kernel
theorem tyX4_ok : ∀ k, k < 6 → parseFieldDescriptor (TX4 k).2.2.1 = some (tyX4 k) := by decide +kernel
abbrev cX4_init : ByteArray := prog_6_method_1_code
def yX4_init : MethodName := ⟨RX4, "<init>", "(IIII[I[I)V"⟩
abbrev cX4_weigh : ByteArray := prog_6_method_2_code
def yX4_weigh : MethodName := ⟨RX4, "weigh", "([I[III)V"⟩
abbrev cX4_goes : ByteArray := prog_6_method_3_code
def yX4_goes : MethodName := ⟨RX4, "goes", "(I)I"⟩
def RX5 : String := "ElevenYards$Player"
def TX5 : u_T := fun k => match k with
  | 0 => ("ElevenYards$Player", "kind", "I", true)
  | 1 => ("ElevenYards$Player", "number", "I", true)
  | 2 => ("ElevenYards$Player", "v", "I", true)
  | 3 => ("ElevenYards$Player", "rule", "I", true)
  | 4 => ("ElevenYards$Player", "codes", "[I", true)
  | _ => ("ElevenYards$Player", "log", "[I", true)
def tyX5 : Nat → FieldType := fun k => match k with
  | 0 => .int
  | 1 => .int
  | 2 => .int
  | 3 => .int
  | 4 => .array .int
  | _ => .array .int
abbrev wsX50 : List Cond := u_ws RX5 TX5 6
theorem nmX5 : ∀ a, a < 6 → ∀ b, b < 6 → a ≠ b → (TX5 a).2.1 ≠ (TX5 b).2.1 := by decide +kernel
theorem tyX5_ok : ∀ k, k < 6 → parseFieldDescriptor (TX5 k).2.2.1 = some (tyX5 k) := by decide +kernel
abbrev cX5_init : ByteArray := prog_7_method_1_code
def yX5_init : MethodName := ⟨RX5, "<init>", "(IIII[I[I)V"⟩
abbrev cX5_heeds : ByteArray := prog_7_method_2_code
def yX5_heeds : MethodName := ⟨RX5, "heeds", "()Z"⟩
abbrev cX5_weigh : ByteArray := prog_7_method_3_code
def yX5_weigh : MethodName := ⟨RX5, "weigh", "([I[III)V"⟩
abbrev cX5_looks : ByteArray := prog_7_method_4_code
def yX5_looks : MethodName := ⟨RX5, "looks", "(I)I"⟩
abbrev cX5_goes : ByteArray := prog_7_method_5_code
def yX5_goes : MethodName := ⟨RX5, "goes", "(I)I"⟩
abbrev cX5_tells : ByteArray := prog_7_method_6_code
def yX5_tells : MethodName := ⟨RX5, "tells", "(I)I"⟩
abbrev cX5_begin : ByteArray := prog_7_method_7_code
def yX5_begin : MethodName := ⟨RX5, "begin", "(I)V"⟩
def RX6 : String := "ElevenYards$Reader"
def TX6 : u_T := fun k => match k with
  | 0 => ("ElevenYards$Reader", "text", "[I", true)
  | 1 => ("ElevenYards$Reader", "codes", "[I", true)
  | 2 => ("ElevenYards$Reader", "length", "I", false)
  | 3 => ("ElevenYards$Reader", "made", "I", false)
  | 4 => ("ElevenYards$Reader", "place", "I", false)
  | _ => ("ElevenYards$Reader", "fault", "Z", false)
def tyX6 : Nat → FieldType := fun k => match k with
  | 0 => .array .int
  | 1 => .array .int
  | 2 => .int
  | 3 => .int
  | 4 => .int
  | _ => .boolean
abbrev wsX60 : List Cond := u_ws RX6 TX6 6
theorem nmX6 : ∀ a, a < 6 → ∀ b, b < 6 → a ≠ b → (TX6 a).2.1 ≠ (TX6 b).2.1 := by decide +kernel
theorem tyX6_ok : ∀ k, k < 6 → parseFieldDescriptor (TX6 k).2.2.1 = some (tyX6 k) := by decide +kernel
abbrev cX6_init : ByteArray := prog_8_method_1_code
def yX6_init : MethodName := ⟨RX6, "<init>", "()V"⟩
abbrev cX6_addByte : ByteArray := prog_8_method_2_code
def yX6_addByte : MethodName := ⟨RX6, "addByte", "(I)V"⟩
abbrev cX6_parses : ByteArray := prog_8_method_3_code
def yX6_parses : MethodName := ⟨RX6, "parses", "()Z"⟩
abbrev cX6_parseClause : ByteArray := prog_8_method_4_code
def yX6_parseClause : MethodName := ⟨RX6, "parseClause", "()V"⟩
abbrev cX6_parseEither : ByteArray := prog_8_method_5_code
def yX6_parseEither : MethodName := ⟨RX6, "parseEither", "(I)V"⟩
abbrev cX6_parseBoth : ByteArray := prog_8_method_6_code
def yX6_parseBoth : MethodName := ⟨RX6, "parseBoth", "(I)V"⟩
abbrev cX6_parseSingle : ByteArray := prog_8_method_7_code
def yX6_parseSingle : MethodName := ⟨RX6, "parseSingle", "(I)V"⟩
abbrev cX6_sees : ByteArray := prog_8_method_8_code
def yX6_sees : MethodName := ⟨RX6, "sees", "(C)Z"⟩
abbrev cX6_pass : ByteArray := prog_8_method_9_code
def yX6_pass : MethodName := ⟨RX6, "pass", "(Ljava/lang/String;)V"⟩
abbrev cX6_passOneOf : ByteArray := prog_8_method_10_code
def yX6_passOneOf : MethodName := ⟨RX6, "passOneOf", "(Ljava/lang/String;)I"⟩
abbrev cX6_passNumber : ByteArray := prog_8_method_11_code
def yX6_passNumber : MethodName := ⟨RX6, "passNumber", "()I"⟩
abbrev cX6_seesFigure : ByteArray := prog_8_method_12_code
def yX6_seesFigure : MethodName := ⟨RX6, "seesFigure", "()Z"⟩
abbrev cX6_make : ByteArray := prog_8_method_13_code
def yX6_make : MethodName := ⟨RX6, "make", "(IIII)V"⟩
def RX7 : String := "ElevenYards$ShootOut"
def TX7 : u_T := fun k => match k with
  | 0 => ("ElevenYards$ShootOut", "members", "[LElevenYards$Player;", true)
  | 1 => ("ElevenYards$ShootOut", "chances", "[[I", true)
  | 2 => ("ElevenYards$ShootOut", "wins", "[[I", true)
  | 3 => ("ElevenYards$ShootOut", "bestWin", "I", false)
  | _ => ("ElevenYards$ShootOut", "bestRow", "I", false)
def tyX7 : Nat → FieldType := fun k => match k with
  | 0 => .array (.object "ElevenYards$Player")
  | 1 => .array (.array .int)
  | 2 => .array (.array .int)
  | 3 => .int
  | _ => .int
abbrev wsX70 : List Cond := u_ws RX7 TX7 5
theorem nmX7 : ∀ a, a < 5 → ∀ b, b < 5 → a ≠ b → (TX7 a).2.1 ≠ (TX7 b).2.1 := by decide +kernel
theorem tyX7_ok : ∀ k, k < 5 → parseFieldDescriptor (TX7 k).2.2.1 = some (tyX7 k) := by decide +kernel
abbrev cX7_init : ByteArray := prog_9_method_1_code
def yX7_init : MethodName := ⟨RX7, "<init>", "()V"⟩
abbrev cX7_scoreIndex : ByteArray := prog_9_method_2_code
def yX7_scoreIndex : MethodName := ⟨RX7, "scoreIndex", "(II)I"⟩
abbrev cX7_chanceIndex : ByteArray := prog_9_method_3_code
def yX7_chanceIndex : MethodName := ⟨RX7, "chanceIndex", "(III)I"⟩
abbrev cX7_isManned : ByteArray := prog_9_method_4_code
def yX7_isManned : MethodName := ⟨RX7, "isManned", "()Z"⟩
abbrev cX7_playBack : ByteArray := prog_9_method_5_code
def yX7_playBack : MethodName := ⟨RX7, "playBack", "(LElevenYards$Duel;I)V"⟩
abbrev cX7_fillChances : ByteArray := prog_9_method_6_code
def yX7_fillChances : MethodName := ⟨RX7, "fillChances", "(LElevenYards$Duel;IIII)V"⟩
abbrev cX7_stepBack : ByteArray := prog_9_method_7_code
def yX7_stepBack : MethodName := ⟨RX7, "stepBack", "(II)V"⟩
abbrev cX7_seekOrder : ByteArray := prog_9_method_8_code
def yX7_seekOrder : MethodName := ⟨RX7, "seekOrder", "(LElevenYards$Duel;)V"⟩
abbrev cX7_placeKicker : ByteArray := prog_9_method_9_code
def yX7_placeKicker : MethodName := ⟨RX7, "placeKicker", "(III)V"⟩
abbrev cX7_judged : ByteArray := prog_9_method_10_code
def yX7_judged : MethodName := ⟨RX7, "judged", "([JII)I"⟩
def RX8 : String := "ElevenYards$Staying"
def TX8 : u_T := fun k => match k with
  | 0 => ("ElevenYards$Player", "kind", "I", true)
  | 1 => ("ElevenYards$Player", "number", "I", true)
  | 2 => ("ElevenYards$Player", "v", "I", true)
  | 3 => ("ElevenYards$Player", "rule", "I", true)
  | 4 => ("ElevenYards$Player", "codes", "[I", true)
  | _ => ("ElevenYards$Player", "log", "[I", true)
def tyX8 : Nat → FieldType := fun k => match k with
  | 0 => .int
  | 1 => .int
  | 2 => .int
  | 3 => .int
  | 4 => .array .int
  | _ => .array .int
abbrev wsX80 : List Cond := u_ws RX8 TX8 6
theorem nmX8 : ∀ a, a < 6 → ∀ b, b < 6 → a ≠ b → (TX8 a).2.1 ≠ (TX8 b).2.1 := by decide +kernel
theorem tyX8_ok : ∀ k, k < 6 → parseFieldDescriptor (TX8 k).2.2.1 = some (tyX8 k) := by decide +kernel
abbrev cX8_init : ByteArray := prog_10_method_1_code
def yX8_init : MethodName := ⟨RX8, "<init>", "(IIII[I[I)V"⟩
abbrev cX8_weigh : ByteArray := prog_10_method_2_code
def yX8_weigh : MethodName := ⟨RX8, "weigh", "([I[III)V"⟩
abbrev cX8_goes : ByteArray := prog_10_method_3_code
def yX8_goes : MethodName := ⟨RX8, "goes", "(I)I"⟩
abbrev cX8_looks : ByteArray := prog_10_method_4_code
def yX8_looks : MethodName := ⟨RX8, "looks", "(I)I"⟩
def RX9 : String := "ElevenYards$Turning"
def TX9 : u_T := fun k => match k with
  | 0 => ("ElevenYards$Player", "kind", "I", true)
  | 1 => ("ElevenYards$Player", "number", "I", true)
  | 2 => ("ElevenYards$Player", "v", "I", true)
  | 3 => ("ElevenYards$Player", "rule", "I", true)
  | 4 => ("ElevenYards$Player", "codes", "[I", true)
  | _ => ("ElevenYards$Player", "log", "[I", true)
def tyX9 : Nat → FieldType := fun k => match k with
  | 0 => .int
  | 1 => .int
  | 2 => .int
  | 3 => .int
  | 4 => .array .int
  | _ => .array .int
abbrev wsX90 : List Cond := u_ws RX9 TX9 6
theorem nmX9 : ∀ a, a < 6 → ∀ b, b < 6 → a ≠ b → (TX9 a).2.1 ≠ (TX9 b).2.1 := by decide +kernel
theorem tyX9_ok : ∀ k, k < 6 → parseFieldDescriptor (TX9 k).2.2.1 = some (tyX9 k) := by decide +kernel
abbrev cX9_init : ByteArray := prog_11_method_1_code
def yX9_init : MethodName := ⟨RX9, "<init>", "(IIII[I[I)V"⟩
abbrev cX9_weigh : ByteArray := prog_11_method_2_code
def yX9_weigh : MethodName := ⟨RX9, "weigh", "([I[III)V"⟩
abbrev cX9_tells : ByteArray := prog_11_method_3_code
def yX9_tells : MethodName := ⟨RX9, "tells", "(I)I"⟩
def RX10 : String := "ElevenYards$Waiting"
def TX10 : u_T := fun k => match k with
  | 0 => ("ElevenYards$Player", "kind", "I", true)
  | 1 => ("ElevenYards$Player", "number", "I", true)
  | 2 => ("ElevenYards$Player", "v", "I", true)
  | 3 => ("ElevenYards$Player", "rule", "I", true)
  | 4 => ("ElevenYards$Player", "codes", "[I", true)
  | _ => ("ElevenYards$Player", "log", "[I", true)
def tyX10 : Nat → FieldType := fun k => match k with
  | 0 => .int
  | 1 => .int
  | 2 => .int
  | 3 => .int
  | 4 => .array .int
  | _ => .array .int
abbrev wsX100 : List Cond := u_ws RX10 TX10 6
theorem nmX10 : ∀ a, a < 6 → ∀ b, b < 6 → a ≠ b → (TX10 a).2.1 ≠ (TX10 b).2.1 := by decide +kernel
theorem tyX10_ok : ∀ k, k < 6 → parseFieldDescriptor (TX10 k).2.2.1 = some (tyX10 k) := by decide +kernel
abbrev cX10_init : ByteArray := prog_12_method_1_code
def yX10_init : MethodName := ⟨RX10, "<init>", "(IIII[I[I)V"⟩
abbrev cX10_heeds : ByteArray := prog_12_method_2_code
def yX10_heeds : MethodName := ⟨RX10, "heeds", "()Z"⟩
abbrev cX10_weigh : ByteArray := prog_12_method_3_code
def yX10_weigh : MethodName := ⟨RX10, "weigh", "([I[III)V"⟩
abbrev cX10_looks : ByteArray := prog_12_method_4_code
def yX10_looks : MethodName := ⟨RX10, "looks", "(I)I"⟩
abbrev cX10_goes : ByteArray := prog_12_method_5_code
def yX10_goes : MethodName := ⟨RX10, "goes", "(I)I"⟩
def RX11 : String := "ElevenYards"
def TX11 : u_T := fun k => match k with
  | 0 => ("ElevenYards", "reader", "LElevenYards$Reader;", true)
  | 1 => ("ElevenYards", "rules", "[[I", true)
  | 2 => ("ElevenYards", "ruleCount", "I", false)
  | 3 => ("ElevenYards", "players", "[LElevenYards$Player;", true)
  | 4 => ("ElevenYards", "playerCount", "I", false)
  | 5 => ("ElevenYards", "duel", "LElevenYards$Duel;", true)
  | 6 => ("ElevenYards", "kicks", "LElevenYards$Kicks;", true)
  | 7 => ("ElevenYards", "shootOut", "LElevenYards$ShootOut;", true)
  | 8 => ("ElevenYards", "log", "[I", true)
  | 9 => ("ElevenYards", "hasImage", "Z", false)
  | 10 => ("ElevenYards", "imageCells", "[I", true)
  | 11 => ("ElevenYards", "imageKicks", "LElevenYards$Kicks;", true)
  | 12 => ("ElevenYards", "imageMembers", "[LElevenYards$Player;", true)
  | 13 => ("ElevenYards", "sorts", "[I", true)
  | 14 => ("ElevenYards", "sizes", "[I", true)
  | _ => ("ElevenYards", "items", "[[J", true)
def tyX11 : Nat → FieldType := fun k => match k with
  | 0 => .object "ElevenYards$Reader"
  | 1 => .array (.array .int)
  | 2 => .int
  | 3 => .array (.object "ElevenYards$Player")
  | 4 => .int
  | 5 => .object "ElevenYards$Duel"
  | 6 => .object "ElevenYards$Kicks"
  | 7 => .object "ElevenYards$ShootOut"
  | 8 => .array .int
  | 9 => .boolean
  | 10 => .array .int
  | 11 => .object "ElevenYards$Kicks"
  | 12 => .array (.object "ElevenYards$Player")
  | 13 => .array .int
  | 14 => .array .int
  | _ => .array (.array .long)
abbrev wsX110 : List Cond := u_ws RX11 TX11 16
theorem nmX11 : ∀ a, a < 16 → ∀ b, b < 16 → a ≠ b → (TX11 a).2.1 ≠ (TX11 b).2.1 := by decide +kernel
theorem tyX11_ok : ∀ k, k < 16 → parseFieldDescriptor (TX11 k).2.2.1 = some (tyX11 k) := by decide +kernel
abbrev cX11_init : ByteArray := prog_1_method_1_code
def yX11_init : MethodName := ⟨RX11, "<init>", "()V"⟩
abbrev cX11_table : ByteArray := prog_1_method_2_code
def yX11_table : MethodName := ⟨RX11, "table", "(III)I"⟩
abbrev cX11_told : ByteArray := prog_1_method_3_code
def yX11_told : MethodName := ⟨RX11, "told", "(II)I"⟩
abbrev cX11_feed : ByteArray := prog_1_method_4_code
def yX11_feed : MethodName := ⟨RX11, "feed", "(II)I"⟩
abbrev cX11_rule : ByteArray := prog_1_method_5_code
def yX11_rule : MethodName := ⟨RX11, "rule", "()I"⟩
abbrev cX11_player : ByteArray := prog_1_method_6_code
def yX11_player : MethodName := ⟨RX11, "player", "(III)I"⟩
abbrev cX11_of : ByteArray := prog_1_method_7_code
def yX11_of : MethodName := ⟨RX11, "of", "(II)I"⟩
abbrev cX11_isSide : ByteArray := prog_1_method_8_code
def yX11_isSide : MethodName := ⟨RX11, "isSide", "(I)Z"⟩
abbrev cX11_isWho : ByteArray := prog_1_method_9_code
def yX11_isWho : MethodName := ⟨RX11, "isWho", "(I)Z"⟩
abbrev cX11_isPart : ByteArray := prog_1_method_10_code
def yX11_isPart : MethodName := ⟨RX11, "isPart", "(I)Z"⟩
abbrev cX11_isState : ByteArray := prog_1_method_11_code
def yX11_isState : MethodName := ⟨RX11, "isState", "(IIII)Z"⟩
abbrev cX11_playerOrNull : ByteArray := prog_1_method_12_code
def yX11_playerOrNull : MethodName := ⟨RX11, "playerOrNull", "(I)LElevenYards$Player;"⟩
abbrev cX11_newPlayer : ByteArray := prog_1_method_13_code
def yX11_newPlayer : MethodName := ⟨RX11, "newPlayer", "(III)LElevenYards$Player;"⟩
abbrev cX11_rest : ByteArray := prog_1_method_14_code
def yX11_rest : MethodName := ⟨RX11, "rest", "(II)I"⟩
abbrev cX11_gap : ByteArray := prog_1_method_15_code
def yX11_gap : MethodName := ⟨RX11, "gap", "()I"⟩
abbrev cX11_weight : ByteArray := prog_1_method_16_code
def yX11_weight : MethodName := ⟨RX11, "weight", "(IIIIIIII)I"⟩
abbrev cX11_reply : ByteArray := prog_1_method_17_code
def yX11_reply : MethodName := ⟨RX11, "reply", "(IIIIIII)I"⟩
abbrev cX11_odds : ByteArray := prog_1_method_18_code
def yX11_odds : MethodName := ⟨RX11, "odds", "(IIIIIIII)J"⟩
abbrev cX11_leak : ByteArray := prog_1_method_19_code
def yX11_leak : MethodName := ⟨RX11, "leak", "(IIIIII)J"⟩
abbrev cX11_kick : ByteArray := prog_1_method_20_code
def yX11_kick : MethodName := ⟨RX11, "kick", "(IIZ)I"⟩
abbrev cX11_clear : ByteArray := prog_1_method_21_code
def yX11_clear : MethodName := ⟨RX11, "clear", "()I"⟩
abbrev cX11_does : ByteArray := prog_1_method_22_code
def yX11_does : MethodName := ⟨RX11, "does", "(I)I"⟩
abbrev cX11_shows : ByteArray := prog_1_method_23_code
def yX11_shows : MethodName := ⟨RX11, "shows", "(I)I"⟩
abbrev cX11_likely : ByteArray := prog_1_method_24_code
def yX11_likely : MethodName := ⟨RX11, "likely", "(I)I"⟩
abbrev cX11_team : ByteArray := prog_1_method_25_code
def yX11_team : MethodName := ⟨RX11, "team", "(III)I"⟩
abbrev cX11_win : ByteArray := prog_1_method_26_code
def yX11_win : MethodName := ⟨RX11, "win", "(I)I"⟩
abbrev cX11_at : ByteArray := prog_1_method_27_code
def yX11_at : MethodName := ⟨RX11, "at", "(III)I"⟩
abbrev cX11_order : ByteArray := prog_1_method_28_code
def yX11_order : MethodName := ⟨RX11, "order", "(I)I"⟩
abbrev cX11_judge : ByteArray := prog_1_method_29_code
def yX11_judge : MethodName := ⟨RX11, "judge", "(II)I"⟩
abbrev cX11_image : ByteArray := prog_1_method_30_code
def yX11_image : MethodName := ⟨RX11, "image", "()I"⟩
abbrev cX11_undo : ByteArray := prog_1_method_31_code
def yX11_undo : MethodName := ⟨RX11, "undo", "()I"⟩
abbrev cX11_act : ByteArray := prog_1_method_32_code
def yX11_act : MethodName := ⟨RX11, "act", "(III)I"⟩
abbrev cX11_trace : ByteArray := prog_1_method_33_code
def yX11_trace : MethodName := ⟨RX11, "trace", "(I)I"⟩
abbrev cX11_taken : ByteArray := prog_1_method_34_code
def yX11_taken : MethodName := ⟨RX11, "taken", "(II)I"⟩
abbrev cX11_count : ByteArray := prog_1_method_35_code
def yX11_count : MethodName := ⟨RX11, "count", "(I)I"⟩
abbrev cX11_tape : ByteArray := prog_1_method_36_code
def yX11_tape : MethodName := ⟨RX11, "tape", "(III)I"⟩
abbrev cX11_item : ByteArray := prog_1_method_37_code
def yX11_item : MethodName := ⟨RX11, "item", "(IIJ)I"⟩
abbrev cX11_read : ByteArray := prog_1_method_38_code
def yX11_read : MethodName := ⟨RX11, "read", "(II)J"⟩
abbrev cX11_shift : ByteArray := prog_1_method_39_code
def yX11_shift : MethodName := ⟨RX11, "shift", "(IIIII)I"⟩
abbrev cX11_copyMembers : ByteArray := prog_1_method_40_code
def yX11_copyMembers : MethodName := ⟨RX11, "copyMembers", "([LElevenYards$Player;[LElevenYards$Player;)V"⟩
abbrev cX11_isOfKind : ByteArray := prog_1_method_41_code
def yX11_isOfKind : MethodName := ⟨RX11, "isOfKind", "(LElevenYards$Player;I)Z"⟩
abbrev cX11_isTape : ByteArray := prog_1_method_42_code
def yX11_isTape : MethodName := ⟨RX11, "isTape", "(I)Z"⟩
abbrev cX11_isStretch : ByteArray := prog_1_method_43_code
def yX11_isStretch : MethodName := ⟨RX11, "isStretch", "(III)Z"⟩
abbrev cX11_lowestBits : ByteArray := prog_1_method_44_code
def yX11_lowestBits : MethodName := ⟨RX11, "lowestBits", "(IJ)J"⟩
def RX12 : String := "ElevenYardsModel"
def TX12 : u_T := fun k => match k with
  | 0 => ("ElevenYardsModel", "table", "[I", true)
  | 1 => ("ElevenYardsModel", "rules", "I", false)
  | 2 => ("ElevenYardsModel", "fed", "I", false)
  | 3 => ("ElevenYardsModel", "at", "I", false)
  | 4 => ("ElevenYardsModel", "digits", "I", false)
  | 5 => ("ElevenYardsModel", "text", "[I", true)
  | 6 => ("ElevenYardsModel", "clauses", "[I", true)
  | 7 => ("ElevenYardsModel", "word", "[I", true)
  | 8 => ("ElevenYardsModel", "number", "[I", true)
  | 9 => ("ElevenYardsModel", "from", "[I", true)
  | 10 => ("ElevenYardsModel", "to", "[I", true)
  | 11 => ("ElevenYardsModel", "sign", "[I", true)
  | 12 => ("ElevenYardsModel", "waits", "[I", true)
  | 13 => ("ElevenYardsModel", "signs", "I", false)
  | 14 => ("ElevenYardsModel", "waiting", "I", false)
  | 15 => ("ElevenYardsModel", "open", "I", false)
  | 16 => ("ElevenYardsModel", "fact", "[I", true)
  | 17 => ("ElevenYardsModel", "pile", "[Z", true)
  | 18 => ("ElevenYardsModel", "players", "I", false)
  | 19 => ("ElevenYardsModel", "kind", "[I", true)
  | 20 => ("ElevenYardsModel", "v", "[I", true)
  | 21 => ("ElevenYardsModel", "ruleOf", "[I", true)
  | 22 => ("ElevenYardsModel", "rest", "[I", true)
  | 23 => ("ElevenYardsModel", "floor", "I", false)
  | 24 => ("ElevenYardsModel", "ceiling", "I", false)
  | 25 => ("ElevenYardsModel", "weight", "[I", true)
  | 26 => ("ElevenYardsModel", "stateL", "I", false)
  | 27 => ("ElevenYardsModel", "stateO", "I", false)
  | 28 => ("ElevenYardsModel", "stateT", "I", false)
  | 29 => ("ElevenYardsModel", "stateD", "I", false)
  | 30 => ("ElevenYardsModel", "above", "J", false)
  | 31 => ("ElevenYardsModel", "below", "J", false)
  | 32 => ("ElevenYardsModel", "kicks", "I", false)
  | 33 => ("ElevenYardsModel", "kickSide", "[I", true)
  | 34 => ("ElevenYardsModel", "kickKeeper", "[I", true)
  | 35 => ("ElevenYardsModel", "kickGoal", "[I", true)
  | 36 => ("ElevenYardsModel", "team", "[I", true)
  | 37 => ("ElevenYardsModel", "chance", "[I", true)
  | 38 => ("ElevenYardsModel", "other", "[I", true)
  | 39 => ("ElevenYardsModel", "order", "[I", true)
  | 40 => ("ElevenYardsModel", "bestOrder", "[I", true)
  | 41 => ("ElevenYardsModel", "win", "[I", true)
  | 42 => ("ElevenYardsModel", "hasImage", "Z", false)
  | 43 => ("ElevenYardsModel", "imageKicks", "I", false)
  | 44 => ("ElevenYardsModel", "imageTable", "[I", true)
  | 45 => ("ElevenYardsModel", "imageSide", "[I", true)
  | 46 => ("ElevenYardsModel", "imageKeeper", "[I", true)
  | 47 => ("ElevenYardsModel", "imageGoal", "[I", true)
  | 48 => ("ElevenYardsModel", "imageTeam", "[I", true)
  | 49 => ("ElevenYardsModel", "ran", "I", false)
  | 50 => ("ElevenYardsModel", "bodies", "[I", true)
  | 51 => ("ElevenYardsModel", "sort", "[I", true)
  | 52 => ("ElevenYardsModel", "length", "[I", true)
  | 53 => ("ElevenYardsModel", "item", "[J", true)
  | _ => ("ElevenYardsModel", "aside", "[J", true)
def tyX12 : Nat → FieldType := fun k => match k with
  | 0 => .array .int
  | 1 => .int
  | 2 => .int
  | 3 => .int
  | 4 => .int
  | 5 => .array .int
  | 6 => .array .int
  | 7 => .array .int
  | 8 => .array .int
  | 9 => .array .int
  | 10 => .array .int
  | 11 => .array .int
  | 12 => .array .int
  | 13 => .int
  | 14 => .int
  | 15 => .int
  | 16 => .array .int
  | 17 => .array .boolean
  | 18 => .int
  | 19 => .array .int
  | 20 => .array .int
  | 21 => .array .int
  | 22 => .array .int
  | 23 => .int
  | 24 => .int
  | 25 => .array .int
  | 26 => .int
  | 27 => .int
  | 28 => .int
  | 29 => .int
  | 30 => .long
  | 31 => .long
  | 32 => .int
  | 33 => .array .int
  | 34 => .array .int
  | 35 => .array .int
  | 36 => .array .int
  | 37 => .array .int
  | 38 => .array .int
  | 39 => .array .int
  | 40 => .array .int
  | 41 => .array .int
  | 42 => .boolean
  | 43 => .int
  | 44 => .array .int
  | 45 => .array .int
  | 46 => .array .int
  | 47 => .array .int
  | 48 => .array .int
  | 49 => .int
  | 50 => .array .int
  | 51 => .array .int
  | 52 => .array .int
  | 53 => .array .long
  | _ => .array .long
abbrev wsX120 : List Cond := u_ws RX12 TX12 55
theorem nmX12 : ∀ a, a < 55 → ∀ b, b < 55 → a ≠ b → (TX12 a).2.1 ≠ (TX12 b).2.1 := by decide +kernel
theorem tyX12_ok : ∀ k, k < 55 → parseFieldDescriptor (TX12 k).2.2.1 = some (tyX12 k) := by decide +kernel
abbrev cX12_init : ByteArray := prog_14_method_1_code
def yX12_init : MethodName := ⟨RX12, "<init>", "()V"⟩
abbrev cX12_in : ByteArray := prog_14_method_2_code
def yX12_in : MethodName := ⟨RX12, "in", "(III)Z"⟩
abbrev cX12_isSide : ByteArray := prog_14_method_3_code
def yX12_isSide : MethodName := ⟨RX12, "isSide", "(I)Z"⟩
abbrev cX12_table : ByteArray := prog_14_method_4_code
def yX12_table : MethodName := ⟨RX12, "table", "(III)I"⟩
abbrev cX12_told : ByteArray := prog_14_method_5_code
def yX12_told : MethodName := ⟨RX12, "told", "(II)I"⟩
abbrev cX12_feed : ByteArray := prog_14_method_6_code
def yX12_feed : MethodName := ⟨RX12, "feed", "(II)I"⟩
abbrev cX12_next : ByteArray := prog_14_method_7_code
def yX12_next : MethodName := ⟨RX12, "next", "()I"⟩
abbrev cX12_takes : ByteArray := prog_14_method_8_code
def yX12_takes : MethodName := ⟨RX12, "takes", "(I)Z"⟩
abbrev cX12_takesWord : ByteArray := prog_14_method_9_code
def yX12_takesWord : MethodName := ⟨RX12, "takesWord", "(II)Z"⟩
abbrev cX12_isDigit : ByteArray := prog_14_method_10_code
def yX12_isDigit : MethodName := ⟨RX12, "isDigit", "()Z"⟩
abbrev cX12_takesNumber : ByteArray := prog_14_method_11_code
def yX12_takesNumber : MethodName := ⟨RX12, "takesNumber", "()Z"⟩
abbrev cX12_put : ByteArray := prog_14_method_12_code
def yX12_put : MethodName := ⟨RX12, "put", "(I)V"⟩
abbrev cX12_whole : ByteArray := prog_14_method_13_code
def yX12_whole : MethodName := ⟨RX12, "whole", "()V"⟩
abbrev cX12_settle : ByteArray := prog_14_method_14_code
def yX12_settle : MethodName := ⟨RX12, "settle", "(I)V"⟩
abbrev cX12_place : ByteArray := prog_14_method_15_code
def yX12_place : MethodName := ⟨RX12, "place", "(I)I"⟩
abbrev cX12_takesTest : ByteArray := prog_14_method_16_code
def yX12_takesTest : MethodName := ⟨RX12, "takesTest", "()Z"⟩
abbrev cX12_takesE : ByteArray := prog_14_method_17_code
def yX12_takesE : MethodName := ⟨RX12, "takesE", "(I)Z"⟩
abbrev cX12_takesClause : ByteArray := prog_14_method_18_code
def yX12_takesClause : MethodName := ⟨RX12, "takesClause", "(I)Z"⟩
abbrev cX12_goesText : ByteArray := prog_14_method_19_code
def yX12_goesText : MethodName := ⟨RX12, "goesText", "(I)Z"⟩
abbrev cX12_rule : ByteArray := prog_14_method_20_code
def yX12_rule : MethodName := ⟨RX12, "rule", "()I"⟩
abbrev cX12_holds : ByteArray := prog_14_method_21_code
def yX12_holds : MethodName := ⟨RX12, "holds", "(I)Z"⟩
abbrev cX12_isPlayer : ByteArray := prog_14_method_22_code
def yX12_isPlayer : MethodName := ⟨RX12, "isPlayer", "(I)Z"⟩
abbrev cX12_player : ByteArray := prog_14_method_23_code
def yX12_player : MethodName := ⟨RX12, "player", "(III)I"⟩
abbrev cX12_of : ByteArray := prog_14_method_24_code
def yX12_of : MethodName := ⟨RX12, "of", "(II)I"⟩
abbrev cX12_chanceOf : ByteArray := prog_14_method_25_code
def yX12_chanceOf : MethodName := ⟨RX12, "chanceOf", "(IIIII)I"⟩
abbrev cX12_findRest : ByteArray := prog_14_method_26_code
def yX12_findRest : MethodName := ⟨RX12, "findRest", "()V"⟩
abbrev cX12_layRest : ByteArray := prog_14_method_27_code
def yX12_layRest : MethodName := ⟨RX12, "layRest", "(IIII)V"⟩
abbrev cX12_rest : ByteArray := prog_14_method_28_code
def yX12_rest : MethodName := ⟨RX12, "rest", "(II)I"⟩
abbrev cX12_gap : ByteArray := prog_14_method_29_code
def yX12_gap : MethodName := ⟨RX12, "gap", "()I"⟩
abbrev cX12_isState : ByteArray := prog_14_method_30_code
def yX12_isState : MethodName := ⟨RX12, "isState", "(IIII)Z"⟩
abbrev cX12_layState : ByteArray := prog_14_method_31_code
def yX12_layState : MethodName := ⟨RX12, "layState", "(IIII)V"⟩
abbrev cX12_layFacts : ByteArray := prog_14_method_32_code
def yX12_layFacts : MethodName := ⟨RX12, "layFacts", "(I)V"⟩
abbrev cX12_sumOf : ByteArray := prog_14_method_33_code
def yX12_sumOf : MethodName := ⟨RX12, "sumOf", "(II)I"⟩
abbrev cX12_bound : ByteArray := prog_14_method_34_code
def yX12_bound : MethodName := ⟨RX12, "bound", "(I)V"⟩
abbrev cX12_layPlain : ByteArray := prog_14_method_35_code
def yX12_layPlain : MethodName := ⟨RX12, "layPlain", "(II)V"⟩
abbrev cX12_looks : ByteArray := prog_14_method_36_code
def yX12_looks : MethodName := ⟨RX12, "looks", "(I)Z"⟩
abbrev cX12_replyOf : ByteArray := prog_14_method_37_code
def yX12_replyOf : MethodName := ⟨RX12, "replyOf", "(I)I"⟩
abbrev cX12_answer : ByteArray := prog_14_method_38_code
def yX12_answer : MethodName := ⟨RX12, "answer", "(II)V"⟩
abbrev cX12_layWeights : ByteArray := prog_14_method_39_code
def yX12_layWeights : MethodName := ⟨RX12, "layWeights", "(II)V"⟩
abbrev cX12_arePlayers : ByteArray := prog_14_method_40_code
def yX12_arePlayers : MethodName := ⟨RX12, "arePlayers", "(II)Z"⟩
abbrev cX12_weight : ByteArray := prog_14_method_41_code
def yX12_weight : MethodName := ⟨RX12, "weight", "(IIIIIIII)I"⟩
abbrev cX12_reply : ByteArray := prog_14_method_42_code
def yX12_reply : MethodName := ⟨RX12, "reply", "(IIIIIII)I"⟩
abbrev cX12_divisor : ByteArray := prog_14_method_43_code
def yX12_divisor : MethodName := ⟨RX12, "divisor", "(JJ)J"⟩
abbrev cX12_lower : ByteArray := prog_14_method_44_code
def yX12_lower : MethodName := ⟨RX12, "lower", "()V"⟩
abbrev cX12_pressed : ByteArray := prog_14_method_45_code
def yX12_pressed : MethodName := ⟨RX12, "pressed", "(I)I"⟩
abbrev cX12_sumWeights : ByteArray := prog_14_method_46_code
def yX12_sumWeights : MethodName := ⟨RX12, "sumWeights", "(I)I"⟩
abbrev cX12_findOdds : ByteArray := prog_14_method_47_code
def yX12_findOdds : MethodName := ⟨RX12, "findOdds", "(III)V"⟩
abbrev cX12_odds : ByteArray := prog_14_method_48_code
def yX12_odds : MethodName := ⟨RX12, "odds", "(IIIIIIII)J"⟩
abbrev cX12_leak : ByteArray := prog_14_method_49_code
def yX12_leak : MethodName := ⟨RX12, "leak", "(IIIIII)J"⟩
abbrev cX12_kick : ByteArray := prog_14_method_50_code
def yX12_kick : MethodName := ⟨RX12, "kick", "(IIZ)I"⟩
abbrev cX12_clear : ByteArray := prog_14_method_51_code
def yX12_clear : MethodName := ⟨RX12, "clear", "()I"⟩
abbrev cX12_doesOf : ByteArray := prog_14_method_52_code
def yX12_doesOf : MethodName := ⟨RX12, "doesOf", "(I)I"⟩
abbrev cX12_does : ByteArray := prog_14_method_53_code
def yX12_does : MethodName := ⟨RX12, "does", "(I)I"⟩
abbrev cX12_shows : ByteArray := prog_14_method_54_code
def yX12_shows : MethodName := ⟨RX12, "shows", "(I)I"⟩
abbrev cX12_manyTo : ByteArray := prog_14_method_55_code
def yX12_manyTo : MethodName := ⟨RX12, "manyTo", "(I)I"⟩
abbrev cX12_likely : ByteArray := prog_14_method_56_code
def yX12_likely : MethodName := ⟨RX12, "likely", "(I)I"⟩
abbrev cX12_team : ByteArray := prog_14_method_57_code
def yX12_team : MethodName := ⟨RX12, "team", "(III)I"⟩
abbrev cX12_areTeams : ByteArray := prog_14_method_58_code
def yX12_areTeams : MethodName := ⟨RX12, "areTeams", "()Z"⟩
abbrev cX12_chanceNow : ByteArray := prog_14_method_59_code
def yX12_chanceNow : MethodName := ⟨RX12, "chanceNow", "(IIII)I"⟩
abbrev cX12_layChances : ByteArray := prog_14_method_60_code
def yX12_layChances : MethodName := ⟨RX12, "layChances", "(I)V"⟩
abbrev cX12_ended : ByteArray := prog_14_method_61_code
def yX12_ended : MethodName := ⟨RX12, "ended", "(III)I"⟩
abbrev cX12_bound5 : ByteArray := prog_14_method_62_code
def yX12_bound5 : MethodName := ⟨RX12, "bound5", "(I)I"⟩
abbrev cX12_findWin : ByteArray := prog_14_method_63_code
def yX12_findWin : MethodName := ⟨RX12, "findWin", "()I"⟩
abbrev cX12_layOrder : ByteArray := prog_14_method_64_code
def yX12_layOrder : MethodName := ⟨RX12, "layOrder", "()V"⟩
abbrev cX12_win : ByteArray := prog_14_method_65_code
def yX12_win : MethodName := ⟨RX12, "win", "(I)I"⟩
abbrev cX12_at : ByteArray := prog_14_method_66_code
def yX12_at : MethodName := ⟨RX12, "at", "(III)I"⟩
abbrev cX12_order : ByteArray := prog_14_method_67_code
def yX12_order : MethodName := ⟨RX12, "order", "(I)I"⟩
abbrev cX12_judge : ByteArray := prog_14_method_68_code
def yX12_judge : MethodName := ⟨RX12, "judge", "(II)I"⟩
abbrev cX12_copy : ByteArray := prog_14_method_69_code
def yX12_copy : MethodName := ⟨RX12, "copy", "([I[I)V"⟩
abbrev cX12_image : ByteArray := prog_14_method_70_code
def yX12_image : MethodName := ⟨RX12, "image", "()I"⟩
abbrev cX12_undo : ByteArray := prog_14_method_71_code
def yX12_undo : MethodName := ⟨RX12, "undo", "()I"⟩
abbrev cX12_body : ByteArray := prog_14_method_72_code
def yX12_body : MethodName := ⟨RX12, "body", "(I)V"⟩
abbrev cX12_plainLooks : ByteArray := prog_14_method_73_code
def yX12_plainLooks : MethodName := ⟨RX12, "plainLooks", "(II)I"⟩
abbrev cX12_mixedLooks : ByteArray := prog_14_method_74_code
def yX12_mixedLooks : MethodName := ⟨RX12, "mixedLooks", "(II)I"⟩
abbrev cX12_looksAct : ByteArray := prog_14_method_75_code
def yX12_looksAct : MethodName := ⟨RX12, "looksAct", "(II)I"⟩
abbrev cX12_plainGoes : ByteArray := prog_14_method_76_code
def yX12_plainGoes : MethodName := ⟨RX12, "plainGoes", "(II)I"⟩
abbrev cX12_ownGoes : ByteArray := prog_14_method_77_code
def yX12_ownGoes : MethodName := ⟨RX12, "ownGoes", "(II)I"⟩
abbrev cX12_goesAct : ByteArray := prog_14_method_78_code
def yX12_goesAct : MethodName := ⟨RX12, "goesAct", "(II)I"⟩
abbrev cX12_plainTells : ByteArray := prog_14_method_79_code
def yX12_plainTells : MethodName := ⟨RX12, "plainTells", "(II)I"⟩
abbrev cX12_tellsAct : ByteArray := prog_14_method_80_code
def yX12_tellsAct : MethodName := ⟨RX12, "tellsAct", "(II)I"⟩
abbrev cX12_act : ByteArray := prog_14_method_81_code
def yX12_act : MethodName := ⟨RX12, "act", "(III)I"⟩
abbrev cX12_trace : ByteArray := prog_14_method_82_code
def yX12_trace : MethodName := ⟨RX12, "trace", "(I)I"⟩
abbrev cX12_taken : ByteArray := prog_14_method_83_code
def yX12_taken : MethodName := ⟨RX12, "taken", "(II)I"⟩
abbrev cX12_count : ByteArray := prog_14_method_84_code
def yX12_count : MethodName := ⟨RX12, "count", "(I)I"⟩
abbrev cX12_isTape : ByteArray := prog_14_method_85_code
def yX12_isTape : MethodName := ⟨RX12, "isTape", "(I)Z"⟩
abbrev cX12_tape : ByteArray := prog_14_method_86_code
def yX12_tape : MethodName := ⟨RX12, "tape", "(III)I"⟩
abbrev cX12_narrow : ByteArray := prog_14_method_87_code
def yX12_narrow : MethodName := ⟨RX12, "narrow", "(IJ)J"⟩
abbrev cX12_item : ByteArray := prog_14_method_88_code
def yX12_item : MethodName := ⟨RX12, "item", "(IIJ)I"⟩
abbrev cX12_read : ByteArray := prog_14_method_89_code
def yX12_read : MethodName := ⟨RX12, "read", "(II)J"⟩
abbrev cX12_shift : ByteArray := prog_14_method_90_code
def yX12_shift : MethodName := ⟨RX12, "shift", "(IIIII)I"⟩
def RJ9 : String := "java/lang/Math"
abbrev cJ9_abs_067f4 : ByteArray := prog_15_method_61_code
def yJ9_abs_067f4 : MethodName := ⟨RJ9, "abs", "(J)J"⟩
abbrev cJ9_max_7cf53 : ByteArray := prog_15_method_65_code
def yJ9_max_7cf53 : MethodName := ⟨RJ9, "max", "(II)I"⟩
abbrev cJ9_min_7cf53 : ByteArray := prog_15_method_69_code
def yJ9_min_7cf53 : MethodName := ⟨RJ9, "min", "(II)I"⟩
abbrev cJ9_min_f86c9 : ByteArray := prog_15_method_70_code
def yJ9_min_f86c9 : MethodName := ⟨RJ9, "min", "(JJ)J"⟩
def RJ0 : String := "java/lang/String"
abbrev cJ0_length_8abf5 : ByteArray := prog_16_method_54_code
def yJ0_length_8abf5 : MethodName := ⟨RJ0, "length", "()I"⟩
abbrev cJ0_charAt_5068e : ByteArray := prog_16_method_56_code
def yJ0_charAt_5068e : MethodName := ⟨RJ0, "charAt", "(I)C"⟩
abbrev cJ0_coder_7d493 : ByteArray := prog_16_method_152_code
def yJ0_coder_7d493 : MethodName := ⟨RJ0, "coder", "()B"⟩
abbrev cJ0_isLatin1_aae02 : ByteArray := prog_16_method_154_code
def yJ0_isLatin1_aae02 : MethodName := ⟨RJ0, "isLatin1", "()Z"⟩
abbrev cJ0_checkIndex_df160 : ByteArray := prog_16_method_155_code
def yJ0_checkIndex_df160 : MethodName := ⟨RJ0, "checkIndex", "(II)V"⟩
def RJ1 : String := "java/lang/StringLatin1"
abbrev cJ1_charAt_3b067 : ByteArray := prog_17_method_2_code
def yJ1_charAt_3b067 : MethodName := ⟨RJ1, "charAt", "([BI)C"⟩
def RJ2 : String := "java/lang/StringUTF16"
abbrev cJ2_getChar_3b067 : ByteArray := prog_18_method_5_code
def yJ2_getChar_3b067 : MethodName := ⟨RJ2, "getChar", "([BI)C"⟩
abbrev cJ2_length_9d52b : ByteArray := prog_18_method_6_code
def yJ2_length_9d52b : MethodName := ⟨RJ2, "length", "([B)I"⟩
abbrev cJ2_charAt_3b067 : ByteArray := prog_18_method_83_code
def yJ2_charAt_3b067 : MethodName := ⟨RJ2, "charAt", "([BI)C"⟩
abbrev cJ2_checkIndex_2214a : ByteArray := prog_18_method_91_code
def yJ2_checkIndex_2214a : MethodName := ⟨RJ2, "checkIndex", "(I[B)V"⟩
def RJ10 : String := "java/lang/System"
def RJ7 : String := "java/util/Arrays"
abbrev cJ7_fill_d0a16 : ByteArray := prog_20_method_101_code
def yJ7_fill_d0a16 : MethodName := ⟨RJ7, "fill", "([JJ)V"⟩
abbrev cJ7_fill_53178 : ByteArray := prog_20_method_103_code
def yJ7_fill_53178 : MethodName := ⟨RJ7, "fill", "([II)V"⟩
def RJ3 : String := "jdk/internal/util/Preconditions"
abbrev cJ3_checkIndex_8e157 : ByteArray := prog_21_method_11_code
def yJ3_checkIndex_8e157 : MethodName := ⟨RJ3, "checkIndex", "(IILjava/util/function/BiFunction;)I"⟩
def RL : String := "ElevenYardsLaw"
abbrev cL_law : ByteArray := code
def yL_law : MethodName := ⟨RL, "law", "([I)Z"⟩
abbrev RObj : String := "java/lang/Object"
abbrev vwCl : List vw_C := [(RX0, TX0, 8), (RX1, TX1, 6), (RX2, TX2, 6), (RX3, TX3, 6), (RX4, TX4, 6), (RX5, TX5, 6), (RX6, TX6, 6), (RX7, TX7, 5), (RX8, TX8, 6), (RX9, TX9, 6), (RX10, TX10, 6), (RX11, TX11, 16), (RX12, TX12, 55)]
def cNm : List String := [RX0, RX1, RX2, RX3, RX4, RX5, RX6, RX7, RX8, RX9, RX10, RX11, RX12, RL, RObj, RJ9, RJ7]
def mTab : List (MethodName × ByteArray × Nat × Option FieldType × Nat) := [
  (yX0_init, cX0_init, 1, none, 0),
  (yX0_settleMixes, cX0_settleMixes, 1, none, 0),
  (yX0_settleMix, cX0_settleMix, 7, none, 0),
  (yX0_worstChance, cX0_worstChance, 8, (some .int), 0),
  (yX0_cell, cX0_cell, 4, (some .int), 0),
  (yX0_isBetter, cX0_isBetter, 3, (some .boolean), 0),
  (yX0_setState, cX0_setState, 5, none, 0),
  (yX0_setSeen, cX0_setSeen, 5, none, 0),
  (yX0_meet, cX0_meet, 3, none, 0),
  (yX0_weighOne, cX0_weighOne, 6, none, 0),
  (yX0_follow, cX0_follow, 8, none, 0),
  (yX0_holds, cX0_holds, 3, (some .boolean), 0),
  (yX0_temper, cX0_temper, 3, none, 0),
  (yX0_replySide, cX0_replySide, 8, (some .int), 0),
  (yX0_score, cX0_score, 4, none, 0),
  (yX0_scoreBottle, cX0_scoreBottle, 7, none, 0),
  (yX0_millionths, cX0_millionths, 1, (some .int), 0),
  (yX0_weighGoals, cX0_weighGoals, 14, none, 0),
  (yX0_reduce, cX0_reduce, 8, none, 0),
  (yX1_init, cX1_init, 1, none, 1),
  (yX1_addKick, cX1_addKick, 3, none, 1),
  (yX1_copyFrom, cX1_copyFrom, 2, none, 1),
  (yX1_goalsOfThousand, cX1_goalsOfThousand, 5, (some .int), 1),
  (yX1_farApart, cX1_farApart, 5, (some .int), 1),
  (yX1_runs, cX1_runs, 3, (some .int), 1),
  (yX1_runsShare, cX1_runsShare, 3, (some .int), 1),
  (yX1_placeNext, cX1_placeNext, 5, none, 1),
  (yX1_commonDivisor, cX1_commonDivisor, 4, (some .int), 1),
  (yX2_init, cX2_init, 7, none, 2),
  (yX2_weigh, cX2_weigh, 5, none, 2),
  (yX2_looks, cX2_looks, 2, (some .int), 2),
  (yX3_init, cX3_init, 7, none, 3),
  (yX3_heeds, cX3_heeds, 1, (some .boolean), 3),
  (yX3_weigh, cX3_weigh, 5, none, 3),
  (yX3_tells, cX3_tells, 2, (some .int), 3),
  (yX4_init, cX4_init, 7, none, 4),
  (yX4_weigh, cX4_weigh, 5, none, 4),
  (yX4_goes, cX4_goes, 2, (some .int), 4),
  (yX5_init, cX5_init, 7, none, 5),
  (yX5_heeds, cX5_heeds, 1, (some .boolean), 5),
  (yX5_weigh, cX5_weigh, 5, none, 5),
  (yX5_looks, cX5_looks, 2, (some .int), 5),
  (yX5_goes, cX5_goes, 2, (some .int), 5),
  (yX5_tells, cX5_tells, 2, (some .int), 5),
  (yX5_begin, cX5_begin, 2, none, 5),
  (yX6_init, cX6_init, 1, none, 6),
  (yX6_addByte, cX6_addByte, 2, none, 6),
  (yX6_parses, cX6_parses, 2, (some .boolean), 6),
  (yX6_parseClause, cX6_parseClause, 3, none, 6),
  (yX6_parseEither, cX6_parseEither, 3, none, 6),
  (yX6_parseBoth, cX6_parseBoth, 3, none, 6),
  (yX6_parseSingle, cX6_parseSingle, 4, none, 6),
  (yX6_sees, cX6_sees, 2, (some .boolean), 6),
  (yX6_pass, cX6_pass, 3, none, 6),
  (yX6_passOneOf, cX6_passOneOf, 3, (some .int), 6),
  (yX6_passNumber, cX6_passNumber, 4, (some .int), 6),
  (yX6_seesFigure, cX6_seesFigure, 1, (some .boolean), 6),
  (yX6_make, cX6_make, 5, none, 6),
  (yX7_init, cX7_init, 3, none, 7),
  (yX7_scoreIndex, cX7_scoreIndex, 2, (some .int), 7),
  (yX7_chanceIndex, cX7_chanceIndex, 3, (some .int), 7),
  (yX7_isManned, cX7_isManned, 2, (some .boolean), 7),
  (yX7_playBack, cX7_playBack, 4, none, 7),
  (yX7_fillChances, cX7_fillChances, 9, none, 7),
  (yX7_stepBack, cX7_stepBack, 15, none, 7),
  (yX7_seekOrder, cX7_seekOrder, 4, none, 7),
  (yX7_placeKicker, cX7_placeKicker, 5, none, 7),
  (yX7_judged, cX7_judged, 10, (some .int), 7),
  (yX8_init, cX8_init, 7, none, 8),
  (yX8_weigh, cX8_weigh, 5, none, 8),
  (yX8_goes, cX8_goes, 2, (some .int), 8),
  (yX8_looks, cX8_looks, 2, (some .int), 8),
  (yX9_init, cX9_init, 7, none, 9),
  (yX9_weigh, cX9_weigh, 5, none, 9),
  (yX9_tells, cX9_tells, 2, (some .int), 9),
  (yX10_init, cX10_init, 7, none, 10),
  (yX10_heeds, cX10_heeds, 1, (some .boolean), 10),
  (yX10_weigh, cX10_weigh, 5, none, 10),
  (yX10_looks, cX10_looks, 2, (some .int), 10),
  (yX10_goes, cX10_goes, 2, (some .int), 10),
  (yX11_init, cX11_init, 1, none, 11),
  (yX11_table, cX11_table, 5, (some .int), 11),
  (yX11_told, cX11_told, 3, (some .int), 11),
  (yX11_feed, cX11_feed, 4, (some .int), 11),
  (yX11_rule, cX11_rule, 2, (some .int), 11),
  (yX11_player, cX11_player, 4, (some .int), 11),
  (yX11_of, cX11_of, 4, (some .int), 11),
  (yX11_isSide, cX11_isSide, 1, (some .boolean), 11),
  (yX11_isWho, cX11_isWho, 1, (some .boolean), 11),
  (yX11_isPart, cX11_isPart, 1, (some .boolean), 11),
  (yX11_isState, cX11_isState, 4, (some .boolean), 11),
  (yX11_playerOrNull, cX11_playerOrNull, 2, (some (.object "ElevenYards$Player")), 11),
  (yX11_newPlayer, cX11_newPlayer, 5, (some (.object "ElevenYards$Player")), 11),
  (yX11_rest, cX11_rest, 3, (some .int), 11),
  (yX11_gap, cX11_gap, 1, (some .int), 11),
  (yX11_weight, cX11_weight, 11, (some .int), 11),
  (yX11_reply, cX11_reply, 10, (some .int), 11),
  (yX11_odds, cX11_odds, 11, (some .long), 11),
  (yX11_leak, cX11_leak, 9, (some .long), 11),
  (yX11_kick, cX11_kick, 4, (some .int), 11),
  (yX11_clear, cX11_clear, 2, (some .int), 11),
  (yX11_does, cX11_does, 2, (some .int), 11),
  (yX11_shows, cX11_shows, 2, (some .int), 11),
  (yX11_likely, cX11_likely, 2, (some .int), 11),
  (yX11_team, cX11_team, 6, (some .int), 11),
  (yX11_win, cX11_win, 3, (some .int), 11),
  (yX11_at, cX11_at, 4, (some .int), 11),
  (yX11_order, cX11_order, 2, (some .int), 11),
  (yX11_judge, cX11_judge, 3, (some .int), 11),
  (yX11_image, cX11_image, 1, (some .int), 11),
  (yX11_undo, cX11_undo, 1, (some .int), 11),
  (yX11_act, cX11_act, 5, (some .int), 11),
  (yX11_trace, cX11_trace, 2, (some .int), 11),
  (yX11_taken, cX11_taken, 4, (some .int), 11),
  (yX11_count, cX11_count, 2, (some .int), 11),
  (yX11_tape, cX11_tape, 4, (some .int), 11),
  (yX11_item, cX11_item, 5, (some .int), 11),
  (yX11_read, cX11_read, 3, (some .long), 11),
  (yX11_shift, cX11_shift, 6, (some .int), 11),
  (yX11_copyMembers, cX11_copyMembers, 3, none, 11),
  (yX11_isOfKind, cX11_isOfKind, 2, (some .boolean), 11),
  (yX11_isTape, cX11_isTape, 1, (some .boolean), 11),
  (yX11_isStretch, cX11_isStretch, 3, (some .boolean), 11),
  (yX11_lowestBits, cX11_lowestBits, 3, (some .long), 11),
  (yX12_init, cX12_init, 1, none, 12),
  (yX12_in, cX12_in, 4, (some .boolean), 12),
  (yX12_isSide, cX12_isSide, 2, (some .boolean), 12),
  (yX12_table, cX12_table, 5, (some .int), 12),
  (yX12_told, cX12_told, 3, (some .int), 12),
  (yX12_feed, cX12_feed, 4, (some .int), 12),
  (yX12_next, cX12_next, 1, (some .int), 12),
  (yX12_takes, cX12_takes, 2, (some .boolean), 12),
  (yX12_takesWord, cX12_takesWord, 4, (some .boolean), 12),
  (yX12_isDigit, cX12_isDigit, 1, (some .boolean), 12),
  (yX12_takesNumber, cX12_takesNumber, 2, (some .boolean), 12),
  (yX12_put, cX12_put, 2, none, 12),
  (yX12_whole, cX12_whole, 1, none, 12),
  (yX12_settle, cX12_settle, 2, none, 12),
  (yX12_place, cX12_place, 2, (some .int), 12),
  (yX12_takesTest, cX12_takesTest, 3, (some .boolean), 12),
  (yX12_takesE, cX12_takesE, 4, (some .boolean), 12),
  (yX12_takesClause, cX12_takesClause, 2, (some .boolean), 12),
  (yX12_goesText, cX12_goesText, 3, (some .boolean), 12),
  (yX12_rule, cX12_rule, 2, (some .int), 12),
  (yX12_holds, cX12_holds, 7, (some .boolean), 12),
  (yX12_isPlayer, cX12_isPlayer, 2, (some .boolean), 12),
  (yX12_player, cX12_player, 4, (some .int), 12),
  (yX12_of, cX12_of, 3, (some .int), 12),
  (yX12_chanceOf, cX12_chanceOf, 6, (some .int), 12),
  (yX12_findRest, cX12_findRest, 9, none, 12),
  (yX12_layRest, cX12_layRest, 5, none, 12),
  (yX12_rest, cX12_rest, 3, (some .int), 12),
  (yX12_gap, cX12_gap, 1, (some .int), 12),
  (yX12_isState, cX12_isState, 5, (some .boolean), 12),
  (yX12_layState, cX12_layState, 5, none, 12),
  (yX12_layFacts, cX12_layFacts, 2, none, 12),
  (yX12_sumOf, cX12_sumOf, 5, (some .int), 12),
  (yX12_bound, cX12_bound, 4, none, 12),
  (yX12_layPlain, cX12_layPlain, 5, none, 12),
  (yX12_looks, cX12_looks, 2, (some .boolean), 12),
  (yX12_replyOf, cX12_replyOf, 7, (some .int), 12),
  (yX12_answer, cX12_answer, 6, none, 12),
  (yX12_layWeights, cX12_layWeights, 5, none, 12),
  (yX12_arePlayers, cX12_arePlayers, 3, (some .boolean), 12),
  (yX12_weight, cX12_weight, 9, (some .int), 12),
  (yX12_reply, cX12_reply, 8, (some .int), 12),
  (yX12_divisor, cX12_divisor, 11, (some .long), 12),
  (yX12_lower, cX12_lower, 3, none, 12),
  (yX12_pressed, cX12_pressed, 3, (some .int), 12),
  (yX12_sumWeights, cX12_sumWeights, 2, (some .int), 12),
  (yX12_findOdds, cX12_findOdds, 11, none, 12),
  (yX12_odds, cX12_odds, 13, (some .long), 12),
  (yX12_leak, cX12_leak, 7, (some .long), 12),
  (yX12_kick, cX12_kick, 4, (some .int), 12),
  (yX12_clear, cX12_clear, 2, (some .int), 12),
  (yX12_doesOf, cX12_doesOf, 5, (some .int), 12),
  (yX12_does, cX12_does, 2, (some .int), 12),
  (yX12_shows, cX12_shows, 6, (some .int), 12),
  (yX12_manyTo, cX12_manyTo, 4, (some .int), 12),
  (yX12_likely, cX12_likely, 18, (some .int), 12),
  (yX12_team, cX12_team, 5, (some .int), 12),
  (yX12_areTeams, cX12_areTeams, 2, (some .boolean), 12),
  (yX12_chanceNow, cX12_chanceNow, 5, (some .int), 12),
  (yX12_layChances, cX12_layChances, 7, none, 12),
  (yX12_ended, cX12_ended, 6, (some .int), 12),
  (yX12_bound5, cX12_bound5, 2, (some .int), 12),
  (yX12_findWin, cX12_findWin, 13, (some .int), 12),
  (yX12_layOrder, cX12_layOrder, 2, none, 12),
  (yX12_win, cX12_win, 3, (some .int), 12),
  (yX12_at, cX12_at, 4, (some .int), 12),
  (yX12_order, cX12_order, 8, (some .int), 12),
  (yX12_judge, cX12_judge, 9, (some .int), 12),
  (yX12_copy, cX12_copy, 4, none, 12),
  (yX12_image, cX12_image, 1, (some .int), 12),
  (yX12_undo, cX12_undo, 1, (some .int), 12),
  (yX12_body, cX12_body, 2, none, 12),
  (yX12_plainLooks, cX12_plainLooks, 3, (some .int), 12),
  (yX12_mixedLooks, cX12_mixedLooks, 3, (some .int), 12),
  (yX12_looksAct, cX12_looksAct, 3, (some .int), 12),
  (yX12_plainGoes, cX12_plainGoes, 3, (some .int), 12),
  (yX12_ownGoes, cX12_ownGoes, 3, (some .int), 12),
  (yX12_goesAct, cX12_goesAct, 4, (some .int), 12),
  (yX12_plainTells, cX12_plainTells, 3, (some .int), 12),
  (yX12_tellsAct, cX12_tellsAct, 4, (some .int), 12),
  (yX12_act, cX12_act, 4, (some .int), 12),
  (yX12_trace, cX12_trace, 2, (some .int), 12),
  (yX12_taken, cX12_taken, 4, (some .int), 12),
  (yX12_count, cX12_count, 2, (some .int), 12),
  (yX12_isTape, cX12_isTape, 2, (some .boolean), 12),
  (yX12_tape, cX12_tape, 5, (some .int), 12),
  (yX12_narrow, cX12_narrow, 4, (some .long), 12),
  (yX12_item, cX12_item, 5, (some .int), 12),
  (yX12_read, cX12_read, 3, (some .long), 12),
  (yX12_shift, cX12_shift, 7, (some .int), 12),
  (yJ9_abs_067f4, cJ9_abs_067f4, 2, (some .long), 15),
  (yJ9_max_7cf53, cJ9_max_7cf53, 2, (some .int), 15),
  (yJ9_min_7cf53, cJ9_min_7cf53, 2, (some .int), 15),
  (yJ9_min_f86c9, cJ9_min_f86c9, 4, (some .long), 15),
  (yJ7_fill_d0a16, cJ7_fill_d0a16, 5, none, 16),
  (yJ7_fill_53178, cJ7_fill_53178, 4, none, 16),
  (yL_law, code, 4, (some .boolean), 13),
  (objectInit, ⟨#[0xb1]⟩, 1, none, 14)]
/-- fields: own class, entry; slot, classes, word, word of sameField, nest or not, class named there -/
def fTab : List (Nat × Nat × Nat × List Nat × Nat × Nat × Nat × String) := [
  (0, 9, 0, [0], 171, 0, 0, RX0),
  (0, 17, 1, [0], 173, 0, 0, RX0),
  (0, 20, 2, [0], 175, 0, 0, RX0),
  (0, 23, 3, [0], 177, 0, 0, RX0),
  (0, 26, 4, [0], 178, 0, 0, RX0),
  (0, 29, 5, [0], 180, 0, 0, RX0),
  (0, 33, 6, [0], 181, 0, 0, RX0),
  (0, 37, 7, [0], 183, 0, 0, RX0),
  (0, 79, 4, [2, 3, 4, 5, 8, 9, 10], 476, 0, 0, RX5),
  (0, 125, 1, [2, 3, 4, 5, 8, 9, 10], 463, 0, 0, RX5),
  (0, 128, 2, [2, 3, 4, 5, 8, 9, 10], 471, 0, 0, RX5),
  (0, 131, 3, [2, 3, 4, 5, 8, 9, 10], 474, 0, 0, RX5),
  (0, 134, 5, [2, 3, 4, 5, 8, 9, 10], 478, 0, 1, RX5),
  (1, 9, 0, [1], 208, 0, 0, RX1),
  (1, 15, 1, [1], 209, 0, 0, RX1),
  (1, 18, 2, [1], 210, 0, 0, RX1),
  (1, 22, 3, [1], 212, 0, 0, RX1),
  (1, 25, 4, [1], 213, 0, 0, RX1),
  (1, 28, 5, [1], 214, 0, 0, RX1),
  (3, 29, 1, [3], 461, 462, 0, RX3),
  (4, 9, 2, [4, 10], 466, 467, 0, RX4),
  (5, 9, 0, [2, 3, 4, 5, 8, 9, 10], 458, 0, 0, RX5),
  (5, 15, 1, [2, 3, 4, 5, 8, 9, 10], 460, 0, 0, RX5),
  (5, 18, 2, [2, 3, 4, 5, 8, 9, 10], 465, 0, 0, RX5),
  (5, 21, 3, [2, 3, 4, 5, 8, 9, 10], 472, 0, 0, RX5),
  (5, 24, 4, [2, 3, 4, 5, 8, 9, 10], 475, 0, 0, RX5),
  (5, 28, 5, [2, 3, 4, 5, 8, 9, 10], 477, 0, 0, RX5),
  (6, 9, 0, [6], 114, 0, 0, RX6),
  (6, 15, 1, [6], 115, 0, 0, RX6),
  (6, 18, 2, [6], 117, 0, 0, RX6),
  (6, 22, 3, [6], 119, 0, 0, RX6),
  (6, 25, 4, [6], 121, 0, 0, RX6),
  (6, 28, 5, [6], 123, 0, 0, RX6),
  (7, 11, 0, [7], 241, 0, 0, RX7),
  (7, 19, 1, [7], 243, 0, 0, RX7),
  (7, 22, 2, [7], 244, 0, 0, RX7),
  (7, 25, 3, [7], 246, 0, 0, RX7),
  (7, 29, 4, [7], 248, 0, 0, RX7),
  (8, 13, 2, [8], 468, 469, 0, RX8),
  (11, 12, 0, [11], 264, 0, 0, RX11),
  (11, 20, 1, [11], 265, 0, 0, RX11),
  (11, 23, 2, [11], 266, 0, 0, RX11),
  (11, 29, 3, [11], 267, 0, 0, RX11),
  (11, 33, 4, [11], 268, 0, 0, RX11),
  (11, 39, 5, [11], 269, 0, 0, RX11),
  (11, 46, 6, [11], 270, 0, 0, RX11),
  (11, 53, 7, [11], 271, 0, 0, RX11),
  (11, 57, 8, [11], 272, 0, 0, RX11),
  (11, 61, 9, [11], 273, 0, 0, RX11),
  (11, 65, 10, [11], 274, 0, 0, RX11),
  (11, 68, 11, [11], 275, 0, 0, RX11),
  (11, 71, 12, [11], 276, 0, 0, RX11),
  (11, 74, 13, [11], 277, 0, 0, RX11),
  (11, 77, 14, [11], 278, 0, 0, RX11),
  (11, 82, 15, [11], 279, 0, 0, RX11),
  (11, 95, 0, [0], 172, 0, 0, RX0),
  (11, 101, 2, [6], 118, 0, 0, RX6),
  (11, 112, 4, [6], 122, 0, 0, RX6),
  (11, 115, 1, [6], 116, 0, 0, RX6),
  (11, 118, 3, [6], 120, 0, 0, RX6),
  (11, 135, 0, [2, 3, 4, 5, 8, 9, 10], 459, 0, 0, RX5),
  (11, 138, 2, [2, 3, 4, 5, 8, 9, 10], 470, 0, 0, RX5),
  (11, 141, 3, [2, 3, 4, 5, 8, 9, 10], 473, 0, 0, RX5),
  (11, 168, 2, [0], 176, 0, 0, RX0),
  (11, 171, 1, [0], 174, 0, 0, RX0),
  (11, 186, 4, [0], 179, 0, 0, RX0),
  (11, 205, 6, [0], 182, 0, 0, RX0),
  (11, 209, 7, [0], 184, 0, 0, RX0),
  (11, 212, 2, [1], 211, 0, 0, RX1),
  (11, 232, 0, [7], 242, 0, 0, RX7),
  (11, 235, 1, [2, 3, 4, 5, 8, 9, 10], 464, 0, 0, RX5),
  (11, 247, 2, [7], 245, 0, 0, RX7),
  (11, 259, 3, [7], 247, 0, 0, RX7),
  (11, 262, 4, [7], 249, 0, 0, RX7),
  (12, 7, 0, [12], 995, 0, 0, RX12),
  (12, 13, 1, [12], 996, 0, 0, RX12),
  (12, 17, 2, [12], 997, 0, 0, RX12),
  (12, 20, 3, [12], 998, 0, 0, RX12),
  (12, 23, 4, [12], 999, 0, 0, RX12),
  (12, 26, 5, [12], 1000, 0, 0, RX12),
  (12, 29, 6, [12], 1001, 0, 0, RX12),
  (12, 32, 7, [12], 1002, 0, 0, RX12),
  (12, 35, 8, [12], 1003, 0, 0, RX12),
  (12, 38, 9, [12], 1004, 0, 0, RX12),
  (12, 41, 10, [12], 1005, 0, 0, RX12),
  (12, 44, 11, [12], 1006, 0, 0, RX12),
  (12, 47, 12, [12], 1007, 0, 0, RX12),
  (12, 50, 13, [12], 1008, 0, 0, RX12),
  (12, 53, 14, [12], 1009, 0, 0, RX12),
  (12, 56, 15, [12], 1010, 0, 0, RX12),
  (12, 59, 16, [12], 1011, 0, 0, RX12),
  (12, 62, 17, [12], 1012, 0, 0, RX12),
  (12, 66, 18, [12], 1013, 0, 0, RX12),
  (12, 69, 19, [12], 1014, 0, 0, RX12),
  (12, 72, 20, [12], 1015, 0, 0, RX12),
  (12, 75, 21, [12], 1016, 0, 0, RX12),
  (12, 78, 22, [12], 1017, 0, 0, RX12),
  (12, 81, 23, [12], 1018, 0, 0, RX12),
  (12, 84, 24, [12], 1019, 0, 0, RX12),
  (12, 87, 25, [12], 1020, 0, 0, RX12),
  (12, 90, 26, [12], 1021, 0, 0, RX12),
  (12, 93, 27, [12], 1022, 0, 0, RX12),
  (12, 96, 28, [12], 1023, 0, 0, RX12),
  (12, 99, 29, [12], 1024, 0, 0, RX12),
  (12, 102, 30, [12], 1025, 0, 0, RX12),
  (12, 106, 31, [12], 1026, 0, 0, RX12),
  (12, 109, 32, [12], 1027, 0, 0, RX12),
  (12, 112, 33, [12], 1028, 0, 0, RX12),
  (12, 115, 34, [12], 1029, 0, 0, RX12),
  (12, 118, 35, [12], 1030, 0, 0, RX12),
  (12, 121, 36, [12], 1031, 0, 0, RX12),
  (12, 124, 37, [12], 1032, 0, 0, RX12),
  (12, 127, 38, [12], 1033, 0, 0, RX12),
  (12, 130, 39, [12], 1034, 0, 0, RX12),
  (12, 133, 40, [12], 1035, 0, 0, RX12),
  (12, 136, 41, [12], 1036, 0, 0, RX12),
  (12, 139, 42, [12], 1037, 0, 0, RX12),
  (12, 143, 43, [12], 1038, 0, 0, RX12),
  (12, 146, 44, [12], 1039, 0, 0, RX12),
  (12, 149, 45, [12], 1040, 0, 0, RX12),
  (12, 152, 46, [12], 1041, 0, 0, RX12),
  (12, 155, 47, [12], 1042, 0, 0, RX12),
  (12, 158, 48, [12], 1043, 0, 0, RX12),
  (12, 161, 49, [12], 1044, 0, 0, RX12),
  (12, 164, 50, [12], 1045, 0, 0, RX12),
  (12, 167, 51, [12], 1046, 0, 0, RX12),
  (12, 170, 52, [12], 1047, 0, 0, RX12),
  (12, 173, 53, [12], 1048, 0, 0, RX12),
  (12, 177, 54, [12], 1049, 0, 0, RX12)]
/-- calls: own class, entry; kind, arguments, targets (class, method, sort, words), words, the method named there -/
def cTab : List (Nat × Nat × Nat × Nat × List (Nat × Nat × Nat × List Nat) × List Nat × MethodName) := [
  (0, 3, 7, 0, [], [147], objectInit),
  (0, 40, 0, 2, [(0, 219, 0, [])], [149, 150, 83], yJ7_fill_53178),
  (0, 46, 6, 0, [(0, 1, 0, [154, 153, 82])], [152], yX0_settleMixes),
  (0, 49, 6, 1, [(0, 2, 0, [0, 158, 82])], [156], yX0_settleMix),
  (0, 53, 6, 4, [(0, 3, 0, [1, 162, 82])], [160], yX0_worstChance),
  (0, 57, 0, 3, [(0, 5, 0, [])], [168, 169, 82], yX0_isBetter),
  (0, 61, 6, 3, [(0, 4, 0, [2, 166, 82])], [164], yX0_cell),
  (0, 65, 0, 5, [(0, 7, 0, [])], [596, 597, 82], yX0_setSeen),
  (0, 69, 6, 0, [(2, 39, 1, [606, 607, 604, 92]), (3, 32, 2, [606, 604, 608, 609, 97, 617]), (4, 39, 1, [606, 611, 604, 92]), (5, 39, 0, [605, 604, 92]), (8, 39, 1, [606, 612, 604, 92]), (9, 39, 1, [606, 613, 604, 92]), (10, 76, 2, [606, 604, 614, 615, 96, 617])], [603], yX5_heeds),
  (0, 75, 6, 3, [(0, 9, 0, [15, 620, 82])], [618], yX0_weighOne),
  (0, 82, 0, 3, [(0, 10, 0, [])], [622, 623, 82], yX0_follow),
  (0, 88, 0, 2, [(0, 216, 0, [])], [628, 629, 99], yJ9_min_7cf53),
  (0, 94, 6, 1, [(0, 13, 0, [633, 632, 82])], [631], yX0_replySide),
  (0, 98, 6, 4, [(2, 29, 2, [638, 636, 639, 640, 94, 665]), (3, 33, 2, [638, 636, 643, 644, 97, 665]), (4, 36, 2, [638, 636, 649, 650, 93, 665]), (5, 40, 0, [637, 636, 92]), (8, 69, 2, [638, 636, 652, 653, 98, 665]), (9, 73, 2, [638, 636, 656, 657, 95, 665]), (10, 77, 2, [638, 636, 660, 661, 96, 665])], [635], yX5_weigh),
  (0, 102, 0, 1, [(0, 12, 0, [])], [666, 667, 82], yX0_temper),
  (0, 106, 0, 3, [(0, 11, 0, [])], [625, 626, 82], yX0_holds),
  (0, 109, 6, 2, [(0, 8, 0, [601, 600, 82])], [686], yX0_meet),
  (0, 113, 6, 1, [(0, 17, 0, [16, 689, 82])], [687], yX0_weighGoals),
  (0, 116, 6, 0, [(0, 18, 0, [17, 698, 82])], [696], yX0_reduce),
  (0, 119, 6, 3, [(0, 14, 0, [684, 683, 82])], [707], yX0_score),
  (0, 137, 2, 6, [(0, 31, 0, [])], [709, 534, 97], yX3_init),
  (0, 144, 0, 2, [(0, 217, 0, [])], [692, 693, 99], yJ9_min_f86c9),
  (0, 147, 0, 1, [(0, 214, 0, [])], [700, 701, 99], yJ9_abs_067f4),
  (1, 3, 7, 0, [], [207], objectInit),
  (1, 31, 8, 5, [], [847], ⟨"java/lang/System", "arraycopy", "(Ljava/lang/Object;ILjava/lang/Object;II)V"⟩),
  (1, 37, 6, 1, [(1, 22, 0, [732, 731, 84])], [742], yX1_goalsOfThousand),
  (1, 41, 0, 2, [(0, 215, 0, [])], [743, 744, 99], yJ9_max_7cf53),
  (1, 47, 0, 2, [(0, 216, 0, [])], [746, 629, 99], yJ9_min_7cf53),
  (1, 50, 0, 2, [(0, 219, 0, [])], [759, 150, 83], yJ7_fill_53178),
  (1, 56, 6, 0, [(1, 24, 0, [749, 748, 84])], [760], yX1_runs),
  (1, 60, 6, 3, [(1, 26, 0, [18, 763, 84])], [761], yX1_placeNext),
  (1, 64, 0, 2, [(0, 27, 0, [])], [765, 766, 84], yX1_commonDivisor),
  (2, 3, 2, 6, [(0, 38, 0, [])], [497, 455, 92], yX5_init),
  (2, 9, 8, 5, [], [642], ⟨"java/lang/System", "arraycopy", "(Ljava/lang/Object;ILjava/lang/Object;II)V"⟩),
  (2, 15, 6, 1, [(2, 44, 1, [864, 866, 869, 92]), (3, 44, 1, [864, 867, 869, 92]), (8, 44, 1, [864, 868, 869, 92])], [863], ⟨"ElevenYards$Mixed", "begin", "(I)V"⟩),
  (2, 21, 4, 1, [(2, 41, 0, []), (3, 41, 0, []), (8, 41, 0, [])], [871, 859, 504, 857, 92], yX5_looks),
  (3, 1, 2, 6, [(0, 28, 0, [])], [536, 495, 94], yX2_init),
  (3, 7, 1, 1, [(0, 87, 0, [])], [646, 319, 80], yX11_isSide),
  (3, 13, 0, 2, [(0, 219, 0, [])], [647, 150, 83], yJ7_fill_53178),
  (3, 19, 4, 4, [(3, 29, 0, [])], [648, 1528, 543, 640, 94], yX2_weigh),
  (3, 23, 6, 1, [(3, 44, 1, [929, 930, 869, 92])], [928], ⟨"ElevenYards$Noted", "begin", "(I)V"⟩),
  (3, 33, 5, 1, [(3, 43, 0, [])], [931, 932, 543, 504, 921, 92], ⟨"ElevenYards$Mixed", "tells", "(I)I"⟩),
  (4, 3, 2, 6, [(0, 38, 0, [])], [454, 455, 92], yX5_init),
  (4, 15, 6, 1, [(4, 44, 1, [903, 904, 869, 92]), (10, 44, 1, [903, 905, 869, 92])], [902], ⟨"ElevenYards$Own", "begin", "(I)V"⟩),
  (4, 19, 4, 1, [(4, 42, 0, []), (10, 42, 0, [])], [906, 896, 491, 894, 92], yX5_goes),
  (5, 3, 7, 0, [], [457], objectInit),
  (5, 31, 6, 1, [(2, 44, 1, [1531, 1532, 869, 92]), (3, 44, 1, [1531, 1533, 869, 92]), (4, 44, 1, [1531, 1534, 869, 92]), (5, 44, 0, [1535, 869, 92]), (8, 44, 1, [1531, 1536, 869, 92]), (9, 44, 1, [1531, 1537, 869, 92]), (10, 44, 1, [1531, 1538, 869, 92])], [892], yX5_begin),
  (5, 35, 6, 1, [(2, 30, 2, [859, 857, 860, 861, 94, 891]), (3, 30, 2, [859, 857, 872, 861, 94, 891]), (4, 41, 1, [859, 873, 857, 92]), (5, 41, 0, [858, 857, 92]), (8, 71, 2, [859, 857, 874, 875, 98, 891]), (9, 41, 1, [859, 881, 857, 92]), (10, 78, 2, [859, 857, 882, 883, 96, 891])], [919], yX5_looks),
  (5, 39, 6, 1, [(2, 42, 1, [896, 897, 894, 92]), (3, 42, 1, [896, 898, 894, 92]), (4, 37, 2, [896, 894, 899, 900, 93, 918]), (5, 42, 0, [895, 894, 92]), (8, 70, 2, [896, 894, 907, 908, 98, 918]), (9, 42, 1, [896, 913, 894, 92]), (10, 79, 2, [896, 894, 914, 915, 96, 918])], [948], yX5_goes),
  (6, 3, 7, 0, [], [113], objectInit),
  (6, 32, 6, 0, [(6, 48, 0, [3, 344, 81])], [342], yX6_parseClause),
  (6, 35, 6, 1, [(6, 52, 0, [4, 348, 81])], [346], yX6_sees),
  (6, 41, 6, 1, [(6, 53, 0, [5, 353, 81])], [351], yX6_pass),
  (6, 47, 6, 1, [(6, 54, 0, [6, 406, 81])], [404], yX6_passOneOf),
  (6, 55, 6, 0, [(6, 55, 0, [7, 412, 81])], [410], yX6_passNumber),
  (6, 59, 6, 1, [(6, 49, 0, [9, 420, 81])], [418], yX6_parseEither),
  (6, 63, 6, 4, [(6, 57, 0, [12, 432, 81])], [430], yX6_make),
  (6, 67, 6, 1, [(6, 50, 0, [10, 424, 81])], [422], yX6_parseBoth),
  (6, 70, 6, 1, [(6, 51, 0, [11, 428, 81])], [426], yX6_parseSingle),
  (6, 79, 9, 0, [], [355], ⟨"java/lang/String", "length", "()I"⟩),
  (6, 83, 10, 1, [], [365], ⟨"java/lang/String", "charAt", "(I)C"⟩),
  (6, 87, 6, 0, [(6, 56, 0, [8, 416, 81])], [414], yX6_seesFigure),
  (7, 3, 7, 0, [], [233], objectInit),
  (7, 32, 0, 2, [(0, 59, 0, [])], [236, 237, 85], yX7_scoreIndex),
  (7, 38, 6, 5, [(7, 63, 0, [19, 788, 85])], [786], yX7_fillChances),
  (7, 42, 6, 2, [(7, 64, 0, [20, 801, 85])], [799], yX7_stepBack),
  (7, 46, 6, 4, [(0, 6, 0, [594, 593, 82])], [790], yX0_setState),
  (7, 52, 6, 2, [(0, 8, 0, [601, 600, 82])], [791], yX0_meet),
  (7, 56, 0, 3, [(0, 60, 0, [])], [792, 793, 85], yX7_chanceIndex),
  (7, 60, 6, 0, [(0, 16, 0, [797, 796, 82])], [795], yX0_millionths),
  (7, 66, 6, 3, [(7, 66, 0, [21, 820, 85])], [818], yX7_placeKicker),
  (8, 3, 2, 6, [(0, 28, 0, [])], [549, 495, 94], yX2_init),
  (8, 9, 4, 4, [(8, 29, 0, [])], [655, 1528, 556, 640, 94], yX2_weigh),
  (8, 19, 6, 1, [(8, 44, 1, [878, 879, 869, 92])], [877], ⟨"ElevenYards$Staying", "begin", "(I)V"⟩),
  (8, 23, 5, 1, [(8, 42, 0, [])], [910, 911, 556, 504, 894, 92], ⟨"ElevenYards$Mixed", "goes", "(I)I"⟩),
  (8, 27, 4, 1, [(8, 30, 0, [])], [880, 1530, 556, 861, 94], yX2_looks),
  (9, 1, 2, 6, [(0, 38, 0, [])], [510, 455, 92], yX5_init),
  (9, 7, 1, 1, [(0, 87, 0, [])], [659, 319, 80], yX11_isSide),
  (9, 13, 6, 1, [(9, 44, 1, [940, 941, 869, 92])], [939], ⟨"ElevenYards$Turning", "begin", "(I)V"⟩),
  (9, 19, 4, 1, [(9, 43, 0, [])], [942, 923, 517, 921, 92], yX5_tells),
  (9, 23, 6, 1, [(9, 42, 1, [944, 945, 894, 92])], [943], ⟨"ElevenYards$Turning", "goes", "(I)I"⟩),
  (10, 1, 2, 6, [(0, 35, 0, [])], [523, 452, 93], yX4_init),
  (10, 7, 4, 4, [(10, 36, 0, [])], [663, 1529, 530, 650, 93], yX4_weigh),
  (10, 11, 1, 1, [(0, 87, 0, [])], [664, 319, 80], yX11_isSide),
  (10, 19, 6, 1, [(10, 44, 1, [886, 887, 869, 92])], [885], ⟨"ElevenYards$Waiting", "begin", "(I)V"⟩),
  (10, 23, 5, 1, [(10, 41, 0, [])], [888, 889, 530, 491, 857, 92], ⟨"ElevenYards$Own", "looks", "(I)I"⟩),
  (10, 27, 4, 1, [(10, 37, 0, [])], [917, 1539, 530, 900, 93], yX4_goes),
  (11, 3, 7, 0, [], [105], objectInit),
  (11, 11, 3, 0, [(0, 45, 0, [])], [110, 111, 81], yX6_init),
  (11, 38, 2, 0, [(0, 0, 0, [])], [144, 145, 82], yX0_init),
  (11, 45, 3, 0, [(0, 19, 0, [])], [204, 205, 84], yX1_init),
  (11, 52, 2, 0, [(0, 58, 0, [])], [230, 231, 85], yX7_init),
  (11, 85, 0, 2, [(0, 219, 0, [])], [263, 150, 83], yJ7_fill_53178),
  (11, 91, 0, 1, [(0, 87, 0, [])], [318, 319, 80], yX11_isSide),
  (11, 98, 6, 0, [(0, 1, 0, [154, 153, 82])], [321], yX0_settleMixes),
  (11, 104, 6, 1, [(6, 46, 0, [332, 331, 81])], [330], yX6_addByte),
  (11, 108, 6, 0, [(6, 47, 0, [340, 339, 81])], [338], yX6_parses),
  (11, 121, 8, 5, [], [437], ⟨"java/lang/System", "arraycopy", "(Ljava/lang/Object;ILjava/lang/Object;II)V"⟩),
  (11, 127, 6, 3, [(11, 92, 0, [13, 447, 80])], [445], yX11_newPlayer),
  (11, 131, 6, 1, [(11, 91, 0, [14, 572, 80])], [570], yX11_playerOrNull),
  (11, 146, 2, 6, [(0, 35, 0, [])], [451, 452, 93], yX4_init),
  (11, 151, 2, 6, [(0, 28, 0, [])], [494, 495, 94], yX2_init),
  (11, 154, 2, 6, [(0, 72, 0, [])], [507, 508, 95], yX9_init),
  (11, 157, 2, 6, [(0, 75, 0, [])], [520, 521, 96], yX10_init),
  (11, 160, 2, 6, [(0, 31, 0, [])], [533, 534, 97], yX3_init),
  (11, 163, 2, 6, [(0, 68, 0, [])], [546, 547, 98], yX8_init),
  (11, 164, 2, 6, [(0, 38, 0, [])], [558, 455, 92], yX5_init),
  (11, 165, 0, 1, [(0, 88, 0, [])], [578, 579, 80], yX11_isWho),
  (11, 174, 0, 4, [(0, 90, 0, [])], [589, 590, 80], yX11_isState),
  (11, 178, 6, 4, [(0, 6, 0, [594, 593, 82])], [592], yX0_setState),
  (11, 182, 6, 2, [(0, 8, 0, [601, 600, 82])], [599], yX0_meet),
  (11, 189, 6, 1, [(0, 13, 0, [633, 632, 82])], [673], yX0_replySide),
  (11, 193, 0, 1, [(0, 89, 0, [])], [678, 679, 80], yX11_isPart),
  (11, 198, 6, 3, [(0, 14, 0, [684, 683, 82])], [682], yX0_score),
  (11, 202, 6, 2, [(0, 15, 0, [705, 704, 82])], [703], yX0_scoreBottle),
  (11, 215, 6, 2, [(1, 20, 0, [720, 719, 84])], [718], yX1_addKick),
  (11, 219, 6, 1, [(1, 22, 0, [732, 731, 84])], [730], yX1_goalsOfThousand),
  (11, 222, 6, 0, [(1, 23, 0, [740, 739, 84])], [738], yX1_farApart),
  (11, 226, 6, 0, [(1, 24, 0, [749, 748, 84])], [747], yX1_runs),
  (11, 229, 6, 1, [(1, 25, 0, [757, 756, 84])], [755], yX1_runsShare),
  (11, 239, 6, 0, [(7, 61, 0, [779, 778, 85])], [777], yX7_isManned),
  (11, 243, 6, 2, [(7, 62, 0, [784, 783, 85])], [782], yX7_playBack),
  (11, 251, 0, 2, [(0, 59, 0, [])], [809, 237, 85], yX7_scoreIndex),
  (11, 255, 6, 1, [(7, 65, 0, [816, 815, 85])], [814], yX7_seekOrder),
  (11, 268, 0, 1, [(0, 121, 0, [])], [829, 830, 80], yX11_isTape),
  (11, 271, 0, 3, [(0, 67, 0, [])], [832, 833, 85], yX7_judged),
  (11, 275, 0, 2, [(0, 119, 0, [])], [840, 841, 80], yX11_copyMembers),
  (11, 279, 6, 1, [(1, 21, 0, [845, 844, 84])], [843], yX1_copyFrom),
  (11, 283, 6, 1, [(2, 30, 2, [859, 857, 860, 861, 94, 891]), (3, 30, 2, [859, 857, 872, 861, 94, 891]), (4, 41, 1, [859, 873, 857, 92]), (5, 41, 0, [858, 857, 92]), (8, 71, 2, [859, 857, 874, 875, 98, 891]), (9, 41, 1, [859, 881, 857, 92]), (10, 78, 2, [859, 857, 882, 883, 96, 891])], [856], yX5_looks),
  (11, 286, 6, 1, [(2, 42, 1, [896, 897, 894, 92]), (3, 42, 1, [896, 898, 894, 92]), (4, 37, 2, [896, 894, 899, 900, 93, 918]), (5, 42, 0, [895, 894, 92]), (8, 70, 2, [896, 894, 907, 908, 98, 918]), (9, 42, 1, [896, 913, 894, 92]), (10, 79, 2, [896, 894, 914, 915, 96, 918])], [893], yX5_goes),
  (11, 289, 6, 1, [(2, 43, 1, [923, 924, 921, 92]), (3, 34, 2, [923, 921, 925, 926, 97, 947]), (4, 43, 1, [923, 934, 921, 92]), (5, 43, 0, [922, 921, 92]), (8, 43, 1, [923, 935, 921, 92]), (9, 74, 2, [923, 921, 936, 937, 95, 947]), (10, 43, 1, [923, 946, 921, 92])], [920], yX5_tells),
  (11, 292, 0, 2, [(0, 120, 0, [])], [957, 958, 80], yX11_isOfKind),
  (11, 296, 0, 2, [(0, 218, 0, [])], [968, 969, 83], yJ7_fill_d0a16),
  (11, 299, 0, 2, [(0, 123, 0, [])], [975, 976, 80], yX11_lowestBits),
  (11, 303, 0, 3, [(0, 122, 0, [])], [986, 987, 80], yX11_isStretch),
  (12, 1, 7, 0, [], [994], objectInit),
  (12, 180, 6, 3, [(12, 125, 0, [23, 1172, 86])], [1170], yX12_in),
  (12, 184, 6, 1, [(12, 126, 0, [22, 1168, 86])], [1166], yX12_isSide),
  (12, 188, 6, 0, [(12, 130, 0, [26, 1196, 86])], [1194], yX12_next),
  (12, 192, 6, 1, [(12, 131, 0, [28, 1204, 86])], [1202], yX12_takes),
  (12, 195, 6, 0, [(12, 133, 0, [30, 1213, 86])], [1211], yX12_isDigit),
  (12, 199, 6, 1, [(12, 135, 0, [34, 1229, 86])], [1227], yX12_put),
  (12, 203, 6, 1, [(12, 138, 0, [33, 1225, 86])], [1223], yX12_place),
  (12, 207, 6, 0, [(12, 134, 0, [29, 1209, 86])], [1207], yX12_takesNumber),
  (12, 210, 6, 0, [(12, 136, 0, [35, 1233, 86])], [1231], yX12_whole),
  (12, 213, 6, 0, [(12, 139, 0, [32, 1221, 86])], [1219], yX12_takesTest),
  (12, 216, 6, 1, [(12, 137, 0, [36, 1237, 86])], [1235], yX12_settle),
  (12, 219, 6, 2, [(12, 132, 0, [27, 1200, 86])], [1198], yX12_takesWord),
  (12, 224, 6, 1, [(12, 140, 0, [31, 1217, 86])], [1215], yX12_takesE),
  (12, 227, 6, 1, [(12, 141, 0, [25, 1192, 86])], [1190], yX12_takesClause),
  (12, 230, 6, 1, [(12, 142, 0, [24, 1188, 86])], [1186], yX12_goesText),
  (12, 233, 6, 1, [(12, 145, 0, [37, 1249, 86])], [1247], yX12_isPlayer),
  (12, 236, 6, 5, [(12, 148, 0, [39, 1261, 86])], [1259], yX12_chanceOf),
  (12, 240, 6, 4, [(12, 150, 0, [40, 1265, 86])], [1263], yX12_layRest),
  (12, 244, 6, 0, [(12, 149, 0, [38, 1257, 86])], [1255], yX12_findRest),
  (12, 247, 6, 1, [(12, 144, 0, [48, 1305, 86])], [1303], yX12_holds),
  (12, 250, 6, 1, [(12, 155, 0, [46, 1297, 86])], [1295], yX12_layFacts),
  (12, 253, 6, 2, [(12, 156, 0, [47, 1301, 86])], [1299], yX12_sumOf),
  (12, 257, 6, 1, [(12, 160, 0, [52, 1321, 86])], [1319], yX12_replyOf),
  (12, 260, 6, 1, [(12, 157, 0, [50, 1313, 86])], [1311], yX12_bound),
  (12, 263, 6, 2, [(12, 158, 0, [45, 1293, 86])], [1291], yX12_layPlain),
  (12, 267, 6, 1, [(12, 159, 0, [49, 1309, 86])], [1307], yX12_looks),
  (12, 270, 6, 2, [(12, 161, 0, [51, 1317, 86])], [1315], yX12_answer),
  (12, 273, 6, 2, [(12, 163, 0, [41, 1277, 86])], [1275], yX12_arePlayers),
  (12, 276, 6, 4, [(12, 153, 0, [42, 1281, 86])], [1279], yX12_isState),
  (12, 280, 6, 4, [(12, 154, 0, [43, 1285, 86])], [1283], yX12_layState),
  (12, 283, 6, 2, [(12, 162, 0, [44, 1289, 86])], [1287], yX12_layWeights),
  (12, 286, 6, 2, [(12, 166, 0, [57, 1351, 86])], [1349], yX12_divisor),
  (12, 290, 6, 1, [(12, 169, 0, [54, 1338, 86])], [1336], yX12_sumWeights),
  (12, 293, 6, 1, [(12, 168, 0, [55, 1342, 86])], [1340], yX12_pressed),
  (12, 298, 6, 0, [(12, 167, 0, [56, 1347, 86])], [1345], yX12_lower),
  (12, 303, 6, 3, [(12, 170, 0, [53, 1334, 86])], [1332], yX12_findOdds),
  (12, 307, 6, 1, [(12, 175, 0, [58, 1371, 86])], [1369], yX12_doesOf),
  (12, 310, 6, 1, [(12, 177, 0, [1375, 1374, 86])], [1381], yX12_shows),
  (12, 313, 6, 1, [(12, 178, 0, [59, 1384, 86])], [1382], yX12_manyTo),
  (12, 318, 6, 4, [(12, 182, 0, [63, 1410, 86])], [1408], yX12_chanceNow),
  (12, 322, 6, 3, [(12, 184, 0, [65, 1419, 86])], [1417], yX12_ended),
  (12, 328, 6, 1, [(12, 185, 0, [66, 1425, 86])], [1423], yX12_bound5),
  (12, 332, 6, 0, [(12, 181, 0, [60, 1397, 86])], [1395], yX12_areTeams),
  (12, 336, 6, 0, [(12, 187, 0, [61, 1402, 86])], [1400], yX12_layOrder),
  (12, 339, 6, 1, [(12, 183, 0, [62, 1406, 86])], [1404], yX12_layChances),
  (12, 342, 6, 0, [(12, 186, 0, [64, 1415, 86])], [1413], yX12_findWin),
  (12, 345, 6, 1, [(12, 208, 0, [67, 1441, 86])], [1439], yX12_isTape),
  (12, 348, 6, 2, [(12, 192, 0, [68, 1449, 86])], [1447], yX12_copy),
  (12, 352, 6, 1, [(12, 195, 0, [71, 1469, 86])], [1467], yX12_body),
  (12, 355, 6, 2, [(12, 196, 0, [72, 1473, 86])], [1471], yX12_plainLooks),
  (12, 358, 6, 2, [(12, 197, 0, [70, 1465, 86])], [1463], yX12_mixedLooks),
  (12, 361, 6, 2, [(12, 198, 0, [69, 1461, 86])], [1459], yX12_looksAct),
  (12, 364, 6, 2, [(12, 199, 0, [75, 1485, 86])], [1483], yX12_plainGoes),
  (12, 367, 6, 2, [(12, 200, 0, [74, 1481, 86])], [1479], yX12_ownGoes),
  (12, 370, 6, 2, [(12, 201, 0, [73, 1477, 86])], [1475], yX12_goesAct),
  (12, 373, 6, 2, [(12, 202, 0, [77, 1493, 86])], [1491], yX12_plainTells),
  (12, 376, 6, 2, [(12, 203, 0, [76, 1489, 86])], [1487], yX12_tellsAct),
  (12, 379, 6, 2, [(12, 210, 0, [78, 1517, 86])], [1515], yX12_narrow),
  (13, 9, 2, 0, [(0, 80, 0, [])], [102, 103, 80], yX11_init),
  (13, 12, 2, 0, [(0, 124, 0, [])], [991, 992, 86], yX12_init),
  (13, 13, 6, 3, [(11, 81, 0, [316, 315, 80])], [314], yX11_table),
  (13, 17, 6, 3, [(12, 127, 0, [1164, 1163, 86])], [1162], yX12_table),
  (13, 18, 6, 2, [(11, 82, 0, [324, 323, 80])], [322], yX11_told),
  (13, 22, 6, 2, [(12, 128, 0, [1176, 1175, 86])], [1174], yX12_told),
  (13, 23, 6, 2, [(11, 83, 0, [328, 327, 80])], [326], yX11_feed),
  (13, 26, 6, 2, [(12, 129, 0, [1180, 1179, 86])], [1178], yX12_feed),
  (13, 27, 6, 0, [(11, 84, 0, [336, 335, 80])], [334], yX11_rule),
  (13, 31, 6, 0, [(12, 143, 0, [1184, 1183, 86])], [1182], yX12_rule),
  (13, 32, 6, 3, [(11, 85, 0, [443, 442, 80])], [441], yX11_player),
  (13, 35, 6, 3, [(12, 146, 0, [1241, 1240, 86])], [1239], yX12_player),
  (13, 36, 6, 2, [(11, 86, 0, [568, 567, 80])], [566], yX11_of),
  (13, 39, 6, 2, [(12, 147, 0, [1245, 1244, 86])], [1243], yX12_of),
  (13, 40, 6, 2, [(11, 93, 0, [576, 575, 80])], [574], yX11_rest),
  (13, 43, 6, 2, [(12, 151, 0, [1253, 1252, 86])], [1251], yX12_rest),
  (13, 44, 6, 0, [(11, 94, 0, [583, 582, 80])], [581], yX11_gap),
  (13, 47, 6, 0, [(12, 152, 0, [1269, 1268, 86])], [1267], yX12_gap),
  (13, 48, 6, 8, [(11, 95, 0, [587, 586, 80])], [585], yX11_weight),
  (13, 52, 6, 8, [(12, 164, 0, [1273, 1272, 86])], [1271], yX12_weight),
  (13, 53, 6, 7, [(11, 96, 0, [671, 670, 80])], [669], yX11_reply),
  (13, 57, 6, 7, [(12, 165, 0, [1325, 1324, 86])], [1323], yX12_reply),
  (13, 58, 6, 8, [(11, 97, 0, [676, 675, 80])], [674], yX11_odds),
  (13, 62, 6, 8, [(12, 171, 0, [1329, 1328, 86])], [1327], yX12_odds),
  (13, 63, 6, 6, [(11, 98, 0, [712, 711, 80])], [710], yX11_leak),
  (13, 67, 6, 6, [(12, 172, 0, [1355, 1354, 86])], [1353], yX12_leak),
  (13, 68, 6, 3, [(11, 99, 0, [716, 715, 80])], [714], yX11_kick),
  (13, 72, 6, 3, [(12, 173, 0, [1359, 1358, 86])], [1357], yX12_kick),
  (13, 73, 6, 0, [(11, 100, 0, [724, 723, 80])], [722], yX11_clear),
  (13, 76, 6, 0, [(12, 174, 0, [1363, 1362, 86])], [1361], yX12_clear),
  (13, 77, 6, 1, [(11, 101, 0, [728, 727, 80])], [726], yX11_does),
  (13, 81, 6, 1, [(12, 176, 0, [1367, 1366, 86])], [1365], yX12_does),
  (13, 82, 6, 1, [(11, 102, 0, [736, 735, 80])], [734], yX11_shows),
  (13, 85, 6, 1, [(12, 177, 0, [1375, 1374, 86])], [1373], yX12_shows),
  (13, 86, 6, 1, [(11, 103, 0, [753, 752, 80])], [751], yX11_likely),
  (13, 89, 6, 1, [(12, 179, 0, [1379, 1378, 86])], [1377], yX12_likely),
  (13, 90, 6, 3, [(11, 104, 0, [770, 769, 80])], [768], yX11_team),
  (13, 93, 6, 3, [(12, 180, 0, [1388, 1387, 86])], [1386], yX12_team),
  (13, 94, 6, 1, [(11, 105, 0, [774, 773, 80])], [772], yX11_win),
  (13, 97, 6, 1, [(12, 188, 0, [1392, 1391, 86])], [1390], yX12_win),
  (13, 98, 6, 3, [(11, 106, 0, [807, 806, 80])], [805], yX11_at),
  (13, 101, 6, 3, [(12, 189, 0, [1429, 1428, 86])], [1427], yX12_at),
  (13, 102, 6, 1, [(11, 107, 0, [812, 811, 80])], [810], yX11_order),
  (13, 105, 6, 1, [(12, 190, 0, [1433, 1432, 86])], [1431], yX12_order),
  (13, 106, 6, 2, [(11, 108, 0, [827, 826, 80])], [825], yX11_judge),
  (13, 109, 6, 2, [(12, 191, 0, [1437, 1436, 86])], [1435], yX12_judge),
  (13, 110, 6, 0, [(11, 109, 0, [838, 837, 80])], [836], yX11_image),
  (13, 113, 6, 0, [(12, 193, 0, [1445, 1444, 86])], [1443], yX12_image),
  (13, 114, 6, 0, [(11, 110, 0, [850, 849, 80])], [848], yX11_undo),
  (13, 117, 6, 0, [(12, 194, 0, [1453, 1452, 86])], [1451], yX12_undo),
  (13, 118, 6, 3, [(11, 111, 0, [854, 853, 80])], [852], yX11_act),
  (13, 121, 6, 3, [(12, 204, 0, [1457, 1456, 86])], [1455], yX12_act),
  (13, 122, 6, 1, [(11, 112, 0, [951, 950, 80])], [949], yX11_trace),
  (13, 125, 6, 1, [(12, 205, 0, [1497, 1496, 86])], [1495], yX12_trace),
  (13, 126, 6, 2, [(11, 113, 0, [955, 954, 80])], [953], yX11_taken),
  (13, 129, 6, 2, [(12, 206, 0, [1501, 1500, 86])], [1499], yX12_taken),
  (13, 130, 6, 1, [(11, 114, 0, [962, 961, 80])], [960], yX11_count),
  (13, 133, 6, 1, [(12, 207, 0, [1505, 1504, 86])], [1503], yX12_count),
  (13, 134, 6, 3, [(11, 115, 0, [966, 965, 80])], [964], yX11_tape),
  (13, 137, 6, 3, [(12, 209, 0, [1509, 1508, 86])], [1507], yX12_tape),
  (13, 140, 6, 3, [(11, 116, 0, [973, 972, 80])], [971], yX11_item),
  (13, 144, 6, 3, [(12, 211, 0, [1513, 1512, 86])], [1511], yX12_item),
  (13, 145, 6, 2, [(11, 117, 0, [980, 979, 80])], [978], yX11_read),
  (13, 149, 6, 2, [(12, 212, 0, [1521, 1520, 86])], [1519], yX12_read),
  (13, 150, 6, 5, [(11, 118, 0, [984, 983, 80])], [982], yX11_shift),
  (13, 154, 6, 5, [(12, 213, 0, [1525, 1524, 86])], [1523], yX12_shift)]
/-- the place of each method's code word -/
def mWd : List Nat := [146, 155, 159, 163, 167, 170, 595, 598, 602, 621, 624, 627, 668, 634, 685, 706, 798, 690, 699, 206, 721, 846, 733, 741, 750, 758, 764, 767, 496, 641, 862, 535, 610, 645, 927, 453, 651, 901, 456, 617, 665, 891, 918, 947, 870, 112, 333, 341, 345, 421, 425, 429, 349, 354, 407, 413, 417, 433, 232, 238, 794, 780, 785, 789, 802, 817, 821, 834, 548, 654, 909, 876, 509, 658, 938, 522, 616, 662, 884, 916, 104, 317, 325, 329, 337, 444, 569, 320, 580, 680, 591, 573, 448, 577, 584, 588, 672, 677, 713, 717, 725, 729, 737, 754, 771, 775, 808, 813, 828, 839, 851, 855, 952, 956, 963, 967, 974, 981, 985, 842, 959, 831, 988, 977, 993, 1173, 1169, 1165, 1177, 1181, 1197, 1205, 1201, 1214, 1210, 1230, 1234, 1238, 1226, 1222, 1218, 1193, 1189, 1185, 1306, 1250, 1242, 1246, 1262, 1258, 1266, 1254, 1270, 1282, 1286, 1298, 1302, 1314, 1294, 1310, 1322, 1318, 1290, 1278, 1274, 1326, 1352, 1348, 1343, 1339, 1335, 1330, 1356, 1360, 1364, 1372, 1368, 1376, 1385, 1380, 1389, 1398, 1411, 1407, 1420, 1426, 1416, 1403, 1393, 1430, 1434, 1438, 1450, 1446, 1454, 1470, 1474, 1466, 1462, 1486, 1482, 1478, 1494, 1490, 1458, 1498, 1502, 1506, 1442, 1510, 1518, 1514, 1522, 1526, 702, 745, 630, 694, 970, 151, 0, 107]
def nTab : List (Nat × Nat × Nat × Nat × Nat × Nat) := [(0, 123, 3, 708, 532, 97), (11, 9, 6, 108, 109, 81), (11, 27, 5, 140, 557, 92), (11, 36, 0, 142, 143, 82), (11, 43, 1, 202, 203, 84), (11, 50, 7, 228, 229, 85), (11, 144, 4, 449, 450, 93), (11, 149, 2, 492, 493, 94), (11, 152, 9, 505, 506, 95), (11, 155, 10, 518, 519, 96), (11, 158, 3, 531, 532, 97), (11, 161, 8, 544, 545, 98), (13, 7, 11, 100, 101, 80), (13, 10, 12, 989, 990, 86)]
def aTab : List (Nat × Nat × Nat) := [(7, 9, 234), (11, 27, 140)]
def xTab : List (Nat × Nat × Nat × Nat) := [(0, 15, 3, 148), (7, 17, 3, 235), (11, 18, 3, 138), (11, 80, 4, 261)]
def iTab : List (Nat × Nat × Nat × Nat) := [(11, 144, 4, 449), (11, 149, 2, 492), (11, 152, 9, 505), (11, 155, 10, 518), (11, 158, 3, 531), (11, 161, 8, 544)]
def kTab : List (Nat × Nat × Value × Nat) := [(0, 140, .long (1000000), 695), (0, 142, .long (100), 691), (7, 36, .int (1000000), 239), (7, 37, .int (500000), 240), (7, 64, .long (1000000), 803), (7, 74, .long (5), 835), (11, 238, .int (-1000001), 776), (11, 242, .int (-1000002), 781), (11, 250, .int (1000000), 804), (11, 196, .long (-9223372036854775808), 681), (12, 223, .int (17372787), 1206), (12, 296, .long (100), 1344), (12, 301, .long (-9223372036854775808), 1331), (12, 316, .long (1000000), 1412), (12, 326, .int (1000000), 1421), (12, 327, .int (500000), 1422), (12, 331, .int (-1000001), 1394), (12, 335, .int (-1000002), 1399), (13, 138, .long (4294967295), 1527)]
def sTab : List (Nat × Nat × Nat × Nat × String) := [(6, 39, 0, 350, "go "), (6, 45, 1, 403, "012"), (6, 51, 2, 408, " "), (6, 53, 3, 409, "press "), (6, 73, 4, 434, ")"), (6, 75, 5, 435, "lotd"), (6, 77, 6, 436, "<=>")]
def gTab : List (Nat × Nat × Nat) := [(7, 70, 822), (11, 265, 824)]
/-- what the fields of a new object hold -/
def cDef : List (List Value) := [[.null, .null, .null, .null, .null, .int 0, .long 0, .long 0], [.null, .null, .int 0, .null, .int 0, .int 0], [.int 0, .int 0, .int 0, .int 0, .null, .null], [.int 0, .int 0, .int 0, .int 0, .null, .null], [.int 0, .int 0, .int 0, .int 0, .null, .null], [.int 0, .int 0, .int 0, .int 0, .null, .null], [.null, .null, .int 0, .int 0, .int 0, .int 0], [.null, .null, .null, .int 0, .int 0], [.int 0, .int 0, .int 0, .int 0, .null, .null], [.int 0, .int 0, .int 0, .int 0, .null, .null], [.int 0, .int 0, .int 0, .int 0, .null, .null], [.null, .null, .int 0, .null, .int 0, .null, .null, .null, .null, .int 0, .null, .null, .null, .null, .null, .null], [.null, .int 0, .int 0, .int 0, .int 0, .null, .null, .null, .null, .null, .null, .null, .null, .int 0, .int 0, .int 0, .null, .null, .int 0, .null, .null, .null, .null, .int 0, .int 0, .null, .int 0, .int 0, .int 0, .int 0, .long 0, .long 0, .int 0, .null, .null, .null, .null, .null, .null, .null, .null, .null, .int 0, .int 0, .null, .null, .null, .null, .null, .int 0, .null, .null, .null, .null, .null]]
def cTy : List (Nat → FieldType) := [tyX0, tyX1, tyX2, tyX3, tyX4, tyX5, tyX6, tyX7, tyX8, tyX9, tyX10, tyX11, tyX12]
