-- ===== PART A: goes FIRST, ahead of the names: the tables' words, and 'selects' of the private methods out of them =====
/-- a private method of a class that the tables say can be made, by its rows of tables_1 -/
def lw_okq (q : MethodName × Nat) : Prop := (q.1.cls ≠ "java/lang/invoke/MethodHandle" ∧ q.1.cls ≠ "java/lang/invoke/VarHandle") ∧ Cond.instantiable q.1.cls q.2 ∈ tables_1 ∧ Cond.privateMethod q.1 ∈ tables_1 ∧ Cond.instanceMethod q.1 ∈ tables_1
theorem lw_p0 : lw_okq (⟨"GhostLayers$Trace", "nextToken", "()V"⟩, 13) := ⟨⟨by decide +kernel, by decide +kernel⟩, List.mem_of_getElem? (i := 32) (by decide +kernel), List.mem_of_getElem? (i := 345) (by decide +kernel), List.mem_of_getElem? (i := 346) (by decide +kernel)⟩
theorem lw_p1 : lw_okq (⟨"GhostLayers$Trace", "signAt", "(I)I"⟩, 13) := ⟨⟨by decide +kernel, by decide +kernel⟩, List.mem_of_getElem? (i := 32) (by decide +kernel), List.mem_of_getElem? (i := 349) (by decide +kernel), List.mem_of_getElem? (i := 350) (by decide +kernel)⟩
theorem lw_p2 : lw_okq (⟨"GhostLayers$Trace", "readWord", "()V"⟩, 13) := ⟨⟨by decide +kernel, by decide +kernel⟩, List.mem_of_getElem? (i := 32) (by decide +kernel), List.mem_of_getElem? (i := 359) (by decide +kernel), List.mem_of_getElem? (i := 360) (by decide +kernel)⟩
theorem lw_p3 : lw_okq (⟨"GhostLayers$Trace", "isWord", "(Ljava/lang/String;)Z"⟩, 13) := ⟨⟨by decide +kernel, by decide +kernel⟩, List.mem_of_getElem? (i := 32) (by decide +kernel), List.mem_of_getElem? (i := 364) (by decide +kernel), List.mem_of_getElem? (i := 365) (by decide +kernel)⟩
theorem lw_p4 : lw_okq (⟨"GhostLayers$Trace", "readNumber", "()V"⟩, 13) := ⟨⟨by decide +kernel, by decide +kernel⟩, List.mem_of_getElem? (i := 32) (by decide +kernel), List.mem_of_getElem? (i := 422) (by decide +kernel), List.mem_of_getElem? (i := 423) (by decide +kernel)⟩
theorem lw_p5 : lw_okq (⟨"GhostLayers$Trace", "parseCommand", "()V"⟩, 13) := ⟨⟨by decide +kernel, by decide +kernel⟩, List.mem_of_getElem? (i := 32) (by decide +kernel), List.mem_of_getElem? (i := 429) (by decide +kernel), List.mem_of_getElem? (i := 430) (by decide +kernel)⟩
theorem lw_p6 : lw_okq (⟨"GhostLayers$Trace", "fail", "(I)V"⟩, 13) := ⟨⟨by decide +kernel, by decide +kernel⟩, List.mem_of_getElem? (i := 32) (by decide +kernel), List.mem_of_getElem? (i := 433) (by decide +kernel), List.mem_of_getElem? (i := 434) (by decide +kernel)⟩
theorem lw_p7 : lw_okq (⟨"GhostLayers$Trace", "takeNumber", "(II)I"⟩, 13) := ⟨⟨by decide +kernel, by decide +kernel⟩, List.mem_of_getElem? (i := 32) (by decide +kernel), List.mem_of_getElem? (i := 437) (by decide +kernel), List.mem_of_getElem? (i := 438) (by decide +kernel)⟩
theorem lw_p8 : lw_okq (⟨"GhostLayers$Trace", "takeSemicolon", "()V"⟩, 13) := ⟨⟨by decide +kernel, by decide +kernel⟩, List.mem_of_getElem? (i := 32) (by decide +kernel), List.mem_of_getElem? (i := 441) (by decide +kernel), List.mem_of_getElem? (i := 442) (by decide +kernel)⟩
theorem lw_p9 : lw_okq (⟨"GhostLayers$Cache", "clientOf", "(I)LGhostLayers$Client;"⟩, 15) := ⟨⟨by decide +kernel, by decide +kernel⟩, List.mem_of_getElem? (i := 101) (by decide +kernel), List.mem_of_getElem? (i := 472) (by decide +kernel), List.mem_of_getElem? (i := 473) (by decide +kernel)⟩
theorem lw_p10 : lw_okq (⟨"GhostLayers", "perform", "(I)Z"⟩, 6) := ⟨⟨by decide +kernel, by decide +kernel⟩, List.mem_of_getElem? (i := 24) (by decide +kernel), List.mem_of_getElem? (i := 481) (by decide +kernel), List.mem_of_getElem? (i := 482) (by decide +kernel)⟩
theorem lw_p11 : lw_okq (⟨"GhostLayers$Cache", "kindOf", "(I)I"⟩, 15) := ⟨⟨by decide +kernel, by decide +kernel⟩, List.mem_of_getElem? (i := 101) (by decide +kernel), List.mem_of_getElem? (i := 513) (by decide +kernel), List.mem_of_getElem? (i := 514) (by decide +kernel)⟩
theorem lw_p12 : lw_okq (⟨"GhostLayers$Cache", "makeMostFrequent", "(I)V"⟩, 15) := ⟨⟨by decide +kernel, by decide +kernel⟩, List.mem_of_getElem? (i := 101) (by decide +kernel), List.mem_of_getElem? (i := 529) (by decide +kernel), List.mem_of_getElem? (i := 530) (by decide +kernel)⟩
theorem lw_p13 : lw_okq (⟨"GhostLayers$Cache", "scanInLower", "(I)V"⟩, 15) := ⟨⟨by decide +kernel, by decide +kernel⟩, List.mem_of_getElem? (i := 101) (by decide +kernel), List.mem_of_getElem? (i := 549) (by decide +kernel), List.mem_of_getElem? (i := 550) (by decide +kernel)⟩
theorem lw_p14 : lw_okq (⟨"GhostLayers$Cache", "makeRoomInLower", "()V"⟩, 15) := ⟨⟨by decide +kernel, by decide +kernel⟩, List.mem_of_getElem? (i := 101) (by decide +kernel), List.mem_of_getElem? (i := 553) (by decide +kernel), List.mem_of_getElem? (i := 554) (by decide +kernel)⟩
theorem lw_p15 : lw_okq (⟨"GhostLayers$Cache", "bringToUpper", "(I)V"⟩, 15) := ⟨⟨by decide +kernel, by decide +kernel⟩, List.mem_of_getElem? (i := 101) (by decide +kernel), List.mem_of_getElem? (i := 572) (by decide +kernel), List.mem_of_getElem? (i := 573) (by decide +kernel)⟩
def lw_privs_1 : List (MethodName × Nat) := [(⟨"GhostLayers$Trace", "nextToken", "()V"⟩, 13), (⟨"GhostLayers$Trace", "signAt", "(I)I"⟩, 13), (⟨"GhostLayers$Trace", "readWord", "()V"⟩, 13), (⟨"GhostLayers$Trace", "isWord", "(Ljava/lang/String;)Z"⟩, 13), (⟨"GhostLayers$Trace", "readNumber", "()V"⟩, 13), (⟨"GhostLayers$Trace", "parseCommand", "()V"⟩, 13), (⟨"GhostLayers$Trace", "fail", "(I)V"⟩, 13), (⟨"GhostLayers$Trace", "takeNumber", "(II)I"⟩, 13), (⟨"GhostLayers$Trace", "takeSemicolon", "()V"⟩, 13), (⟨"GhostLayers$Cache", "clientOf", "(I)LGhostLayers$Client;"⟩, 15), (⟨"GhostLayers", "perform", "(I)Z"⟩, 6), (⟨"GhostLayers$Cache", "kindOf", "(I)I"⟩, 15), (⟨"GhostLayers$Cache", "makeMostFrequent", "(I)V"⟩, 15), (⟨"GhostLayers$Cache", "scanInLower", "(I)V"⟩, 15), (⟨"GhostLayers$Cache", "makeRoomInLower", "()V"⟩, 15), (⟨"GhostLayers$Cache", "bringToUpper", "(I)V"⟩, 15)]
theorem lw_r1 : ∀ q ∈ lw_privs_1, lw_okq q := List.forall_mem_cons.mpr ⟨lw_p0, List.forall_mem_cons.mpr ⟨lw_p1, List.forall_mem_cons.mpr ⟨lw_p2, List.forall_mem_cons.mpr ⟨lw_p3, List.forall_mem_cons.mpr ⟨lw_p4, List.forall_mem_cons.mpr ⟨lw_p5, List.forall_mem_cons.mpr ⟨lw_p6, List.forall_mem_cons.mpr ⟨lw_p7, List.forall_mem_cons.mpr ⟨lw_p8, List.forall_mem_cons.mpr ⟨lw_p9, List.forall_mem_cons.mpr ⟨lw_p10, List.forall_mem_cons.mpr ⟨lw_p11, List.forall_mem_cons.mpr ⟨lw_p12, List.forall_mem_cons.mpr ⟨lw_p13, List.forall_mem_cons.mpr ⟨lw_p14, List.forall_mem_cons.mpr ⟨lw_p15, fun _ h => absurd h List.not_mem_nil⟩⟩⟩⟩⟩⟩⟩⟩⟩⟩⟩⟩⟩⟩⟩⟩
theorem lw_p16 : lw_okq (⟨"GhostLayers$Cache", "learnFrom", "(I)V"⟩, 15) := ⟨⟨by decide +kernel, by decide +kernel⟩, List.mem_of_getElem? (i := 101) (by decide +kernel), List.mem_of_getElem? (i := 580) (by decide +kernel), List.mem_of_getElem? (i := 581) (by decide +kernel)⟩
theorem lw_p17 : lw_okq (⟨"GhostLayers$Cache", "loseGhost", "(I)V"⟩, 15) := ⟨⟨by decide +kernel, by decide +kernel⟩, List.mem_of_getElem? (i := 101) (by decide +kernel), List.mem_of_getElem? (i := 588) (by decide +kernel), List.mem_of_getElem? (i := 589) (by decide +kernel)⟩
theorem lw_p18 : lw_okq (⟨"GhostLayers$Cache", "isRecentTooLong", "(Z)Z"⟩, 15) := ⟨⟨by decide +kernel, by decide +kernel⟩, List.mem_of_getElem? (i := 101) (by decide +kernel), List.mem_of_getElem? (i := 600) (by decide +kernel), List.mem_of_getElem? (i := 601) (by decide +kernel)⟩
theorem lw_p19 : lw_okq (⟨"GhostLayers$Cache", "addOwners", "(LGhostLayers$Row;)V"⟩, 15) := ⟨⟨by decide +kernel, by decide +kernel⟩, List.mem_of_getElem? (i := 101) (by decide +kernel), List.mem_of_getElem? (i := 604) (by decide +kernel), List.mem_of_getElem? (i := 605) (by decide +kernel)⟩
theorem lw_p20 : lw_okq (⟨"GhostLayers$Cache", "demote", "(I)V"⟩, 15) := ⟨⟨by decide +kernel, by decide +kernel⟩, List.mem_of_getElem? (i := 101) (by decide +kernel), List.mem_of_getElem? (i := 620) (by decide +kernel), List.mem_of_getElem? (i := 621) (by decide +kernel)⟩
theorem lw_p21 : lw_okq (⟨"java/lang/Throwable", "fillInStackTrace", "(I)Ljava/lang/Throwable;"⟩, 6) := ⟨⟨by decide +kernel, by decide +kernel⟩, List.mem_of_getElem? (i := 746) (by decide +kernel), List.mem_of_getElem? (i := 744) (by decide +kernel), List.mem_of_getElem? (i := 745) (by decide +kernel)⟩
theorem lw_p22 : lw_okq (⟨"GhostLayers", "needClient", "(I)V"⟩, 6) := ⟨⟨by decide +kernel, by decide +kernel⟩, List.mem_of_getElem? (i := 24) (by decide +kernel), List.mem_of_getElem? (i := 830) (by decide +kernel), List.mem_of_getElem? (i := 831) (by decide +kernel)⟩
theorem lw_p23 : lw_okq (⟨"GhostLayers$Cache", "howManyOwned", "(LGhostLayers$Row;I)I"⟩, 15) := ⟨⟨by decide +kernel, by decide +kernel⟩, List.mem_of_getElem? (i := 101) (by decide +kernel), List.mem_of_getElem? (i := 913) (by decide +kernel), List.mem_of_getElem? (i := 914) (by decide +kernel)⟩
theorem lw_p24 : lw_okq (⟨"GhostLayers$Cache", "placeOfUnit", "(I)I"⟩, 15) := ⟨⟨by decide +kernel, by decide +kernel⟩, List.mem_of_getElem? (i := 101) (by decide +kernel), List.mem_of_getElem? (i := 932) (by decide +kernel), List.mem_of_getElem? (i := 933) (by decide +kernel)⟩
theorem lw_p25 : lw_okq (⟨"GhostLayers", "predictionOf", "(III)I"⟩, 6) := ⟨⟨by decide +kernel, by decide +kernel⟩, List.mem_of_getElem? (i := 24) (by decide +kernel), List.mem_of_getElem? (i := 1111) (by decide +kernel), List.mem_of_getElem? (i := 1112) (by decide +kernel)⟩
theorem lw_p26 : lw_okq (⟨"GhostLayers", "needReadsAhead", "(IIII)V"⟩, 6) := ⟨⟨by decide +kernel, by decide +kernel⟩, List.mem_of_getElem? (i := 24) (by decide +kernel), List.mem_of_getElem? (i := 1123) (by decide +kernel), List.mem_of_getElem? (i := 1124) (by decide +kernel)⟩
theorem lw_p27 : lw_okq (⟨"GhostLayers", "readAhead", "(IIIII)V"⟩, 6) := ⟨⟨by decide +kernel, by decide +kernel⟩, List.mem_of_getElem? (i := 24) (by decide +kernel), List.mem_of_getElem? (i := 1128) (by decide +kernel), List.mem_of_getElem? (i := 1129) (by decide +kernel)⟩
theorem lw_p28 : lw_okq (⟨"GhostLayers", "differenceAhead", "(I)I"⟩, 6) := ⟨⟨by decide +kernel, by decide +kernel⟩, List.mem_of_getElem? (i := 24) (by decide +kernel), List.mem_of_getElem? (i := 1132) (by decide +kernel), List.mem_of_getElem? (i := 1133) (by decide +kernel)⟩
theorem lw_p29 : lw_okq (⟨"GhostLayersModel", "put", "(III)V"⟩, 23) := ⟨⟨by decide +kernel, by decide +kernel⟩, List.mem_of_getElem? (i := 1176) (by decide +kernel), List.mem_of_getElem? (i := 1182) (by decide +kernel), List.mem_of_getElem? (i := 1183) (by decide +kernel)⟩
theorem lw_p30 : lw_okq (⟨"GhostLayersModel", "fail", "(I)I"⟩, 23) := ⟨⟨by decide +kernel, by decide +kernel⟩, List.mem_of_getElem? (i := 1176) (by decide +kernel), List.mem_of_getElem? (i := 1265) (by decide +kernel), List.mem_of_getElem? (i := 1266) (by decide +kernel)⟩
theorem lw_p31 : lw_okq (⟨"GhostLayersModel", "nextToken", "()V"⟩, 23) := ⟨⟨by decide +kernel, by decide +kernel⟩, List.mem_of_getElem? (i := 1176) (by decide +kernel), List.mem_of_getElem? (i := 1280) (by decide +kernel), List.mem_of_getElem? (i := 1281) (by decide +kernel)⟩
def lw_privs_2 : List (MethodName × Nat) := [(⟨"GhostLayers$Cache", "learnFrom", "(I)V"⟩, 15), (⟨"GhostLayers$Cache", "loseGhost", "(I)V"⟩, 15), (⟨"GhostLayers$Cache", "isRecentTooLong", "(Z)Z"⟩, 15), (⟨"GhostLayers$Cache", "addOwners", "(LGhostLayers$Row;)V"⟩, 15), (⟨"GhostLayers$Cache", "demote", "(I)V"⟩, 15), (⟨"java/lang/Throwable", "fillInStackTrace", "(I)Ljava/lang/Throwable;"⟩, 6), (⟨"GhostLayers", "needClient", "(I)V"⟩, 6), (⟨"GhostLayers$Cache", "howManyOwned", "(LGhostLayers$Row;I)I"⟩, 15), (⟨"GhostLayers$Cache", "placeOfUnit", "(I)I"⟩, 15), (⟨"GhostLayers", "predictionOf", "(III)I"⟩, 6), (⟨"GhostLayers", "needReadsAhead", "(IIII)V"⟩, 6), (⟨"GhostLayers", "readAhead", "(IIIII)V"⟩, 6), (⟨"GhostLayers", "differenceAhead", "(I)I"⟩, 6), (⟨"GhostLayersModel", "put", "(III)V"⟩, 23), (⟨"GhostLayersModel", "fail", "(I)I"⟩, 23), (⟨"GhostLayersModel", "nextToken", "()V"⟩, 23)]
theorem lw_r2 : ∀ q ∈ lw_privs_2, lw_okq q := List.forall_mem_cons.mpr ⟨lw_p16, List.forall_mem_cons.mpr ⟨lw_p17, List.forall_mem_cons.mpr ⟨lw_p18, List.forall_mem_cons.mpr ⟨lw_p19, List.forall_mem_cons.mpr ⟨lw_p20, List.forall_mem_cons.mpr ⟨lw_p21, List.forall_mem_cons.mpr ⟨lw_p22, List.forall_mem_cons.mpr ⟨lw_p23, List.forall_mem_cons.mpr ⟨lw_p24, List.forall_mem_cons.mpr ⟨lw_p25, List.forall_mem_cons.mpr ⟨lw_p26, List.forall_mem_cons.mpr ⟨lw_p27, List.forall_mem_cons.mpr ⟨lw_p28, List.forall_mem_cons.mpr ⟨lw_p29, List.forall_mem_cons.mpr ⟨lw_p30, List.forall_mem_cons.mpr ⟨lw_p31, fun _ h => absurd h List.not_mem_nil⟩⟩⟩⟩⟩⟩⟩⟩⟩⟩⟩⟩⟩⟩⟩⟩
theorem lw_p32 : lw_okq (⟨"GhostLayersModel", "byteAt", "(I)I"⟩, 23) := ⟨⟨by decide +kernel, by decide +kernel⟩, List.mem_of_getElem? (i := 1176) (by decide +kernel), List.mem_of_getElem? (i := 1284) (by decide +kernel), List.mem_of_getElem? (i := 1285) (by decide +kernel)⟩
theorem lw_p33 : lw_okq (⟨"GhostLayersModel", "isFine", "()Z"⟩, 23) := ⟨⟨by decide +kernel, by decide +kernel⟩, List.mem_of_getElem? (i := 1176) (by decide +kernel), List.mem_of_getElem? (i := 1297) (by decide +kernel), List.mem_of_getElem? (i := 1298) (by decide +kernel)⟩
theorem lw_p34 : lw_okq (⟨"GhostLayersModel", "parseCommand", "()V"⟩, 23) := ⟨⟨by decide +kernel, by decide +kernel⟩, List.mem_of_getElem? (i := 1176) (by decide +kernel), List.mem_of_getElem? (i := 1301) (by decide +kernel), List.mem_of_getElem? (i := 1302) (by decide +kernel)⟩
theorem lw_p35 : lw_okq (⟨"GhostLayersModel", "isWord", "(Ljava/lang/String;)Z"⟩, 23) := ⟨⟨by decide +kernel, by decide +kernel⟩, List.mem_of_getElem? (i := 1176) (by decide +kernel), List.mem_of_getElem? (i := 1306) (by decide +kernel), List.mem_of_getElem? (i := 1307) (by decide +kernel)⟩
theorem lw_p36 : lw_okq (⟨"GhostLayersModel", "require", "(ZI)V"⟩, 23) := ⟨⟨by decide +kernel, by decide +kernel⟩, List.mem_of_getElem? (i := 1176) (by decide +kernel), List.mem_of_getElem? (i := 1314) (by decide +kernel), List.mem_of_getElem? (i := 1315) (by decide +kernel)⟩
theorem lw_p37 : lw_okq (⟨"GhostLayersModel", "advance", "()V"⟩, 23) := ⟨⟨by decide +kernel, by decide +kernel⟩, List.mem_of_getElem? (i := 1176) (by decide +kernel), List.mem_of_getElem? (i := 1318) (by decide +kernel), List.mem_of_getElem? (i := 1319) (by decide +kernel)⟩
theorem lw_p38 : lw_okq (⟨"GhostLayersModel", "parseNumber", "(II)I"⟩, 23) := ⟨⟨by decide +kernel, by decide +kernel⟩, List.mem_of_getElem? (i := 1176) (by decide +kernel), List.mem_of_getElem? (i := 1322) (by decide +kernel), List.mem_of_getElem? (i := 1323) (by decide +kernel)⟩
theorem lw_p39 : lw_okq (⟨"GhostLayersModel", "parseEnd", "(I)I"⟩, 23) := ⟨⟨by decide +kernel, by decide +kernel⟩, List.mem_of_getElem? (i := 1176) (by decide +kernel), List.mem_of_getElem? (i := 1326) (by decide +kernel), List.mem_of_getElem? (i := 1327) (by decide +kernel)⟩
theorem lw_p40 : lw_okq (⟨"GhostLayersModel", "beginAct", "()V"⟩, 23) := ⟨⟨by decide +kernel, by decide +kernel⟩, List.mem_of_getElem? (i := 1176) (by decide +kernel), List.mem_of_getElem? (i := 1331) (by decide +kernel), List.mem_of_getElem? (i := 1332) (by decide +kernel)⟩
theorem lw_p41 : lw_okq (⟨"GhostLayersModel", "isClient", "(I)Z"⟩, 23) := ⟨⟨by decide +kernel, by decide +kernel⟩, List.mem_of_getElem? (i := 1176) (by decide +kernel), List.mem_of_getElem? (i := 1338) (by decide +kernel), List.mem_of_getElem? (i := 1339) (by decide +kernel)⟩
theorem lw_p42 : lw_okq (⟨"GhostLayersModel", "runCommand", "(I)I"⟩, 23) := ⟨⟨by decide +kernel, by decide +kernel⟩, List.mem_of_getElem? (i := 1176) (by decide +kernel), List.mem_of_getElem? (i := 1342) (by decide +kernel), List.mem_of_getElem? (i := 1343) (by decide +kernel)⟩
theorem lw_p43 : lw_okq (⟨"GhostLayersModel", "writeBack", "(I)I"⟩, 23) := ⟨⟨by decide +kernel, by decide +kernel⟩, List.mem_of_getElem? (i := 1176) (by decide +kernel), List.mem_of_getElem? (i := 1346) (by decide +kernel), List.mem_of_getElem? (i := 1347) (by decide +kernel)⟩
theorem lw_p44 : lw_okq (⟨"GhostLayersModel", "inOrder", "(I)I"⟩, 23) := ⟨⟨by decide +kernel, by decide +kernel⟩, List.mem_of_getElem? (i := 1176) (by decide +kernel), List.mem_of_getElem? (i := 1350) (by decide +kernel), List.mem_of_getElem? (i := 1351) (by decide +kernel)⟩
theorem lw_p45 : lw_okq (⟨"GhostLayersModel", "isDirty", "(I)Z"⟩, 23) := ⟨⟨by decide +kernel, by decide +kernel⟩, List.mem_of_getElem? (i := 1176) (by decide +kernel), List.mem_of_getElem? (i := 1354) (by decide +kernel), List.mem_of_getElem? (i := 1355) (by decide +kernel)⟩
theorem lw_p46 : lw_okq (⟨"GhostLayersModel", "of", "(II)I"⟩, 23) := ⟨⟨by decide +kernel, by decide +kernel⟩, List.mem_of_getElem? (i := 1176) (by decide +kernel), List.mem_of_getElem? (i := 1358) (by decide +kernel), List.mem_of_getElem? (i := 1359) (by decide +kernel)⟩
theorem lw_p47 : lw_okq (⟨"GhostLayersModel", "writeUnit", "(I)V"⟩, 23) := ⟨⟨by decide +kernel, by decide +kernel⟩, List.mem_of_getElem? (i := 1176) (by decide +kernel), List.mem_of_getElem? (i := 1362) (by decide +kernel), List.mem_of_getElem? (i := 1363) (by decide +kernel)⟩
def lw_privs_3 : List (MethodName × Nat) := [(⟨"GhostLayersModel", "byteAt", "(I)I"⟩, 23), (⟨"GhostLayersModel", "isFine", "()Z"⟩, 23), (⟨"GhostLayersModel", "parseCommand", "()V"⟩, 23), (⟨"GhostLayersModel", "isWord", "(Ljava/lang/String;)Z"⟩, 23), (⟨"GhostLayersModel", "require", "(ZI)V"⟩, 23), (⟨"GhostLayersModel", "advance", "()V"⟩, 23), (⟨"GhostLayersModel", "parseNumber", "(II)I"⟩, 23), (⟨"GhostLayersModel", "parseEnd", "(I)I"⟩, 23), (⟨"GhostLayersModel", "beginAct", "()V"⟩, 23), (⟨"GhostLayersModel", "isClient", "(I)Z"⟩, 23), (⟨"GhostLayersModel", "runCommand", "(I)I"⟩, 23), (⟨"GhostLayersModel", "writeBack", "(I)I"⟩, 23), (⟨"GhostLayersModel", "inOrder", "(I)I"⟩, 23), (⟨"GhostLayersModel", "isDirty", "(I)Z"⟩, 23), (⟨"GhostLayersModel", "of", "(II)I"⟩, 23), (⟨"GhostLayersModel", "writeUnit", "(I)V"⟩, 23)]
theorem lw_r3 : ∀ q ∈ lw_privs_3, lw_okq q := List.forall_mem_cons.mpr ⟨lw_p32, List.forall_mem_cons.mpr ⟨lw_p33, List.forall_mem_cons.mpr ⟨lw_p34, List.forall_mem_cons.mpr ⟨lw_p35, List.forall_mem_cons.mpr ⟨lw_p36, List.forall_mem_cons.mpr ⟨lw_p37, List.forall_mem_cons.mpr ⟨lw_p38, List.forall_mem_cons.mpr ⟨lw_p39, List.forall_mem_cons.mpr ⟨lw_p40, List.forall_mem_cons.mpr ⟨lw_p41, List.forall_mem_cons.mpr ⟨lw_p42, List.forall_mem_cons.mpr ⟨lw_p43, List.forall_mem_cons.mpr ⟨lw_p44, List.forall_mem_cons.mpr ⟨lw_p45, List.forall_mem_cons.mpr ⟨lw_p46, List.forall_mem_cons.mpr ⟨lw_p47, fun _ h => absurd h List.not_mem_nil⟩⟩⟩⟩⟩⟩⟩⟩⟩⟩⟩⟩⟩⟩⟩⟩
theorem lw_p48 : lw_okq (⟨"GhostLayersModel", "access", "(III)V"⟩, 23) := ⟨⟨by decide +kernel, by decide +kernel⟩, List.mem_of_getElem? (i := 1176) (by decide +kernel), List.mem_of_getElem? (i := 1366) (by decide +kernel), List.mem_of_getElem? (i := 1367) (by decide +kernel)⟩
theorem lw_p49 : lw_okq (⟨"GhostLayersModel", "isScan", "(II)Z"⟩, 23) := ⟨⟨by decide +kernel, by decide +kernel⟩, List.mem_of_getElem? (i := 1176) (by decide +kernel), List.mem_of_getElem? (i := 1370) (by decide +kernel), List.mem_of_getElem? (i := 1371) (by decide +kernel)⟩
theorem lw_p50 : lw_okq (⟨"GhostLayersModel", "ofClient", "(II)I"⟩, 23) := ⟨⟨by decide +kernel, by decide +kernel⟩, List.mem_of_getElem? (i := 1176) (by decide +kernel), List.mem_of_getElem? (i := 1374) (by decide +kernel), List.mem_of_getElem? (i := 1375) (by decide +kernel)⟩
theorem lw_p51 : lw_okq (⟨"GhostLayersModel", "putClient", "(III)V"⟩, 23) := ⟨⟨by decide +kernel, by decide +kernel⟩, List.mem_of_getElem? (i := 1176) (by decide +kernel), List.mem_of_getElem? (i := 1378) (by decide +kernel), List.mem_of_getElem? (i := 1379) (by decide +kernel)⟩
theorem lw_p52 : lw_okq (⟨"GhostLayersModel", "countHit", "(II)V"⟩, 23) := ⟨⟨by decide +kernel, by decide +kernel⟩, List.mem_of_getElem? (i := 1176) (by decide +kernel), List.mem_of_getElem? (i := 1382) (by decide +kernel), List.mem_of_getElem? (i := 1383) (by decide +kernel)⟩
theorem lw_p53 : lw_okq (⟨"GhostLayersModel", "move", "(II)V"⟩, 23) := ⟨⟨by decide +kernel, by decide +kernel⟩, List.mem_of_getElem? (i := 1176) (by decide +kernel), List.mem_of_getElem? (i := 1386) (by decide +kernel), List.mem_of_getElem? (i := 1387) (by decide +kernel)⟩
theorem lw_p54 : lw_okq (⟨"GhostLayersModel", "take", "(II)V"⟩, 23) := ⟨⟨by decide +kernel, by decide +kernel⟩, List.mem_of_getElem? (i := 1176) (by decide +kernel), List.mem_of_getElem? (i := 1390) (by decide +kernel), List.mem_of_getElem? (i := 1391) (by decide +kernel)⟩
theorem lw_p55 : lw_okq (⟨"GhostLayersModel", "placeOf", "(II)I"⟩, 23) := ⟨⟨by decide +kernel, by decide +kernel⟩, List.mem_of_getElem? (i := 1176) (by decide +kernel), List.mem_of_getElem? (i := 1394) (by decide +kernel), List.mem_of_getElem? (i := 1395) (by decide +kernel)⟩
theorem lw_p56 : lw_okq (⟨"GhostLayersModel", "blockAt", "(II)I"⟩, 23) := ⟨⟨by decide +kernel, by decide +kernel⟩, List.mem_of_getElem? (i := 1176) (by decide +kernel), List.mem_of_getElem? (i := 1398) (by decide +kernel), List.mem_of_getElem? (i := 1399) (by decide +kernel)⟩
theorem lw_p57 : lw_okq (⟨"GhostLayersModel", "length", "(I)I"⟩, 23) := ⟨⟨by decide +kernel, by decide +kernel⟩, List.mem_of_getElem? (i := 1176) (by decide +kernel), List.mem_of_getElem? (i := 1402) (by decide +kernel), List.mem_of_getElem? (i := 1403) (by decide +kernel)⟩
theorem lw_p58 : lw_okq (⟨"GhostLayersModel", "bring", "(II)V"⟩, 23) := ⟨⟨by decide +kernel, by decide +kernel⟩, List.mem_of_getElem? (i := 1176) (by decide +kernel), List.mem_of_getElem? (i := 1406) (by decide +kernel), List.mem_of_getElem? (i := 1407) (by decide +kernel)⟩
theorem lw_p59 : lw_okq (⟨"GhostLayersModel", "scan", "(II)V"⟩, 23) := ⟨⟨by decide +kernel, by decide +kernel⟩, List.mem_of_getElem? (i := 1176) (by decide +kernel), List.mem_of_getElem? (i := 1410) (by decide +kernel), List.mem_of_getElem? (i := 1411) (by decide +kernel)⟩
theorem lw_p60 : lw_okq (⟨"GhostLayersModel", "makeRoomBelow", "()V"⟩, 23) := ⟨⟨by decide +kernel, by decide +kernel⟩, List.mem_of_getElem? (i := 1176) (by decide +kernel), List.mem_of_getElem? (i := 1414) (by decide +kernel), List.mem_of_getElem? (i := 1415) (by decide +kernel)⟩
theorem lw_p61 : lw_okq (⟨"GhostLayersModel", "leavingUnit", "()I"⟩, 23) := ⟨⟨by decide +kernel, by decide +kernel⟩, List.mem_of_getElem? (i := 1176) (by decide +kernel), List.mem_of_getElem? (i := 1418) (by decide +kernel), List.mem_of_getElem? (i := 1419) (by decide +kernel)⟩
theorem lw_p62 : lw_okq (⟨"GhostLayersModel", "clean", "(I)V"⟩, 23) := ⟨⟨by decide +kernel, by decide +kernel⟩, List.mem_of_getElem? (i := 1176) (by decide +kernel), List.mem_of_getElem? (i := 1422) (by decide +kernel), List.mem_of_getElem? (i := 1423) (by decide +kernel)⟩
theorem lw_p63 : lw_okq (⟨"GhostLayersModel", "come", "(II)V"⟩, 23) := ⟨⟨by decide +kernel, by decide +kernel⟩, List.mem_of_getElem? (i := 1176) (by decide +kernel), List.mem_of_getElem? (i := 1426) (by decide +kernel), List.mem_of_getElem? (i := 1427) (by decide +kernel)⟩
def lw_privs_4 : List (MethodName × Nat) := [(⟨"GhostLayersModel", "access", "(III)V"⟩, 23), (⟨"GhostLayersModel", "isScan", "(II)Z"⟩, 23), (⟨"GhostLayersModel", "ofClient", "(II)I"⟩, 23), (⟨"GhostLayersModel", "putClient", "(III)V"⟩, 23), (⟨"GhostLayersModel", "countHit", "(II)V"⟩, 23), (⟨"GhostLayersModel", "move", "(II)V"⟩, 23), (⟨"GhostLayersModel", "take", "(II)V"⟩, 23), (⟨"GhostLayersModel", "placeOf", "(II)I"⟩, 23), (⟨"GhostLayersModel", "blockAt", "(II)I"⟩, 23), (⟨"GhostLayersModel", "length", "(I)I"⟩, 23), (⟨"GhostLayersModel", "bring", "(II)V"⟩, 23), (⟨"GhostLayersModel", "scan", "(II)V"⟩, 23), (⟨"GhostLayersModel", "makeRoomBelow", "()V"⟩, 23), (⟨"GhostLayersModel", "leavingUnit", "()I"⟩, 23), (⟨"GhostLayersModel", "clean", "(I)V"⟩, 23), (⟨"GhostLayersModel", "come", "(II)V"⟩, 23)]
theorem lw_r4 : ∀ q ∈ lw_privs_4, lw_okq q := List.forall_mem_cons.mpr ⟨lw_p48, List.forall_mem_cons.mpr ⟨lw_p49, List.forall_mem_cons.mpr ⟨lw_p50, List.forall_mem_cons.mpr ⟨lw_p51, List.forall_mem_cons.mpr ⟨lw_p52, List.forall_mem_cons.mpr ⟨lw_p53, List.forall_mem_cons.mpr ⟨lw_p54, List.forall_mem_cons.mpr ⟨lw_p55, List.forall_mem_cons.mpr ⟨lw_p56, List.forall_mem_cons.mpr ⟨lw_p57, List.forall_mem_cons.mpr ⟨lw_p58, List.forall_mem_cons.mpr ⟨lw_p59, List.forall_mem_cons.mpr ⟨lw_p60, List.forall_mem_cons.mpr ⟨lw_p61, List.forall_mem_cons.mpr ⟨lw_p62, List.forall_mem_cons.mpr ⟨lw_p63, fun _ h => absurd h List.not_mem_nil⟩⟩⟩⟩⟩⟩⟩⟩⟩⟩⟩⟩⟩⟩⟩⟩
theorem lw_p64 : lw_okq (⟨"GhostLayersModel", "learn", "(I)V"⟩, 23) := ⟨⟨by decide +kernel, by decide +kernel⟩, List.mem_of_getElem? (i := 1176) (by decide +kernel), List.mem_of_getElem? (i := 1430) (by decide +kernel), List.mem_of_getElem? (i := 1431) (by decide +kernel)⟩
theorem lw_p65 : lw_okq (⟨"GhostLayersModel", "dropGhost", "(I)V"⟩, 23) := ⟨⟨by decide +kernel, by decide +kernel⟩, List.mem_of_getElem? (i := 1176) (by decide +kernel), List.mem_of_getElem? (i := 1436) (by decide +kernel), List.mem_of_getElem? (i := 1437) (by decide +kernel)⟩
theorem lw_p66 : lw_okq (⟨"GhostLayersModel", "makeRoom", "(Z)V"⟩, 23) := ⟨⟨by decide +kernel, by decide +kernel⟩, List.mem_of_getElem? (i := 1176) (by decide +kernel), List.mem_of_getElem? (i := 1440) (by decide +kernel), List.mem_of_getElem? (i := 1441) (by decide +kernel)⟩
theorem lw_p67 : lw_okq (⟨"GhostLayersModel", "isFull", "()Z"⟩, 23) := ⟨⟨by decide +kernel, by decide +kernel⟩, List.mem_of_getElem? (i := 1176) (by decide +kernel), List.mem_of_getElem? (i := 1444) (by decide +kernel), List.mem_of_getElem? (i := 1445) (by decide +kernel)⟩
theorem lw_p68 : lw_okq (⟨"GhostLayersModel", "victimList", "(Z)I"⟩, 23) := ⟨⟨by decide +kernel, by decide +kernel⟩, List.mem_of_getElem? (i := 1176) (by decide +kernel), List.mem_of_getElem? (i := 1448) (by decide +kernel), List.mem_of_getElem? (i := 1449) (by decide +kernel)⟩
theorem lw_p69 : lw_okq (⟨"GhostLayersModel", "victimOf", "(I)I"⟩, 23) := ⟨⟨by decide +kernel, by decide +kernel⟩, List.mem_of_getElem? (i := 1176) (by decide +kernel), List.mem_of_getElem? (i := 1452) (by decide +kernel), List.mem_of_getElem? (i := 1453) (by decide +kernel)⟩
theorem lw_p70 : lw_okq (⟨"GhostLayersModel", "hasTooMuch", "(I)Z"⟩, 23) := ⟨⟨by decide +kernel, by decide +kernel⟩, List.mem_of_getElem? (i := 1176) (by decide +kernel), List.mem_of_getElem? (i := 1456) (by decide +kernel), List.mem_of_getElem? (i := 1457) (by decide +kernel)⟩
theorem lw_p71 : lw_okq (⟨"GhostLayersModel", "unitsOf", "(IZ)I"⟩, 23) := ⟨⟨by decide +kernel, by decide +kernel⟩, List.mem_of_getElem? (i := 1176) (by decide +kernel), List.mem_of_getElem? (i := 1460) (by decide +kernel), List.mem_of_getElem? (i := 1461) (by decide +kernel)⟩
theorem lw_p72 : lw_okq (⟨"GhostLayersModel", "allWeights", "()I"⟩, 23) := ⟨⟨by decide +kernel, by decide +kernel⟩, List.mem_of_getElem? (i := 1176) (by decide +kernel), List.mem_of_getElem? (i := 1464) (by decide +kernel), List.mem_of_getElem? (i := 1465) (by decide +kernel)⟩
theorem lw_p73 : lw_okq (⟨"GhostLayersModel", "becomeGhost", "(II)V"⟩, 23) := ⟨⟨by decide +kernel, by decide +kernel⟩, List.mem_of_getElem? (i := 1176) (by decide +kernel), List.mem_of_getElem? (i := 1468) (by decide +kernel), List.mem_of_getElem? (i := 1469) (by decide +kernel)⟩
theorem lw_p74 : lw_okq (⟨"GhostLayersModel", "dirtyUnits", "()I"⟩, 23) := ⟨⟨by decide +kernel, by decide +kernel⟩, List.mem_of_getElem? (i := 1176) (by decide +kernel), List.mem_of_getElem? (i := 1472) (by decide +kernel), List.mem_of_getElem? (i := 1473) (by decide +kernel)⟩
theorem lw_p75 : lw_okq (⟨"GhostLayersModel", "isList", "(I)Z"⟩, 23) := ⟨⟨by decide +kernel, by decide +kernel⟩, List.mem_of_getElem? (i := 1176) (by decide +kernel), List.mem_of_getElem? (i := 1535) (by decide +kernel), List.mem_of_getElem? (i := 1536) (by decide +kernel)⟩
theorem lw_p76 : lw_okq (⟨"GhostLayersModel", "runWith", "(II)I"⟩, 23) := ⟨⟨by decide +kernel, by decide +kernel⟩, List.mem_of_getElem? (i := 1176) (by decide +kernel), List.mem_of_getElem? (i := 1579) (by decide +kernel), List.mem_of_getElem? (i := 1580) (by decide +kernel)⟩
theorem lw_p77 : lw_okq (⟨"GhostLayersModel", "isIn", "(II)Z"⟩, 23) := ⟨⟨by decide +kernel, by decide +kernel⟩, List.mem_of_getElem? (i := 1176) (by decide +kernel), List.mem_of_getElem? (i := 1595) (by decide +kernel), List.mem_of_getElem? (i := 1596) (by decide +kernel)⟩
theorem lw_p78 : lw_okq (⟨"GhostLayersModel", "answerAbout", "(II)I"⟩, 23) := ⟨⟨by decide +kernel, by decide +kernel⟩, List.mem_of_getElem? (i := 1176) (by decide +kernel), List.mem_of_getElem? (i := 1611) (by decide +kernel), List.mem_of_getElem? (i := 1612) (by decide +kernel)⟩
theorem lw_p79 : lw_okq (⟨"GhostLayersModel", "readAll", "(IIII)V"⟩, 23) := ⟨⟨by decide +kernel, by decide +kernel⟩, List.mem_of_getElem? (i := 1176) (by decide +kernel), List.mem_of_getElem? (i := 1622) (by decide +kernel), List.mem_of_getElem? (i := 1623) (by decide +kernel)⟩
def lw_privs_5 : List (MethodName × Nat) := [(⟨"GhostLayersModel", "learn", "(I)V"⟩, 23), (⟨"GhostLayersModel", "dropGhost", "(I)V"⟩, 23), (⟨"GhostLayersModel", "makeRoom", "(Z)V"⟩, 23), (⟨"GhostLayersModel", "isFull", "()Z"⟩, 23), (⟨"GhostLayersModel", "victimList", "(Z)I"⟩, 23), (⟨"GhostLayersModel", "victimOf", "(I)I"⟩, 23), (⟨"GhostLayersModel", "hasTooMuch", "(I)Z"⟩, 23), (⟨"GhostLayersModel", "unitsOf", "(IZ)I"⟩, 23), (⟨"GhostLayersModel", "allWeights", "()I"⟩, 23), (⟨"GhostLayersModel", "becomeGhost", "(II)V"⟩, 23), (⟨"GhostLayersModel", "dirtyUnits", "()I"⟩, 23), (⟨"GhostLayersModel", "isList", "(I)Z"⟩, 23), (⟨"GhostLayersModel", "runWith", "(II)I"⟩, 23), (⟨"GhostLayersModel", "isIn", "(II)Z"⟩, 23), (⟨"GhostLayersModel", "answerAbout", "(II)I"⟩, 23), (⟨"GhostLayersModel", "readAll", "(IIII)V"⟩, 23)]
theorem lw_r5 : ∀ q ∈ lw_privs_5, lw_okq q := List.forall_mem_cons.mpr ⟨lw_p64, List.forall_mem_cons.mpr ⟨lw_p65, List.forall_mem_cons.mpr ⟨lw_p66, List.forall_mem_cons.mpr ⟨lw_p67, List.forall_mem_cons.mpr ⟨lw_p68, List.forall_mem_cons.mpr ⟨lw_p69, List.forall_mem_cons.mpr ⟨lw_p70, List.forall_mem_cons.mpr ⟨lw_p71, List.forall_mem_cons.mpr ⟨lw_p72, List.forall_mem_cons.mpr ⟨lw_p73, List.forall_mem_cons.mpr ⟨lw_p74, List.forall_mem_cons.mpr ⟨lw_p75, List.forall_mem_cons.mpr ⟨lw_p76, List.forall_mem_cons.mpr ⟨lw_p77, List.forall_mem_cons.mpr ⟨lw_p78, List.forall_mem_cons.mpr ⟨lw_p79, fun _ h => absurd h List.not_mem_nil⟩⟩⟩⟩⟩⟩⟩⟩⟩⟩⟩⟩⟩⟩⟩⟩
theorem lw_p80 : lw_okq (⟨"GhostLayersModel", "emit", "(I)V"⟩, 23) := ⟨⟨by decide +kernel, by decide +kernel⟩, List.mem_of_getElem? (i := 1176) (by decide +kernel), List.mem_of_getElem? (i := 1637) (by decide +kernel), List.mem_of_getElem? (i := 1638) (by decide +kernel)⟩
theorem lw_p81 : lw_okq (⟨"GhostLayersModel", "writeNumber", "(I)V"⟩, 23) := ⟨⟨by decide +kernel, by decide +kernel⟩, List.mem_of_getElem? (i := 1176) (by decide +kernel), List.mem_of_getElem? (i := 1641) (by decide +kernel), List.mem_of_getElem? (i := 1642) (by decide +kernel)⟩
def lw_privs_6 : List (MethodName × Nat) := [(⟨"GhostLayersModel", "emit", "(I)V"⟩, 23), (⟨"GhostLayersModel", "writeNumber", "(I)V"⟩, 23)]
theorem lw_r6 : ∀ q ∈ lw_privs_6, lw_okq q := List.forall_mem_cons.mpr ⟨lw_p80, List.forall_mem_cons.mpr ⟨lw_p81, fun _ h => absurd h List.not_mem_nil⟩⟩
def lw_privs : List (MethodName × Nat) := lw_privs_1 ++ (lw_privs_2 ++ (lw_privs_3 ++ (lw_privs_4 ++ (lw_privs_5 ++ (lw_privs_6)))))
def lw_tbl : List Cond := k2_sels lw_privs ++ tables_1
theorem lw_privs_ok : ∀ q ∈ lw_privs, lw_okq q := by
  show ∀ q ∈ lw_privs_1 ++ (lw_privs_2 ++ (lw_privs_3 ++ (lw_privs_4 ++ (lw_privs_5 ++ (lw_privs_6))))), lw_okq q
  exact List.forall_mem_append.mpr ⟨lw_r1, List.forall_mem_append.mpr ⟨lw_r2, List.forall_mem_append.mpr ⟨lw_r3, List.forall_mem_append.mpr ⟨lw_r4, List.forall_mem_append.mpr ⟨lw_r5, lw_r6⟩⟩⟩⟩⟩
/-- the streams that the claim lets the run draw from -/
abbrev lw_cs : List Choice := [Jvm.Choice.named "NaN.bits"]
theorem lw_bits : nanBits ∈ lw_cs := by first | decide | exact List.mem_cons_self | simp [lw_cs, nanBits]
-- ===== end of PART A; then your names; then what follows =====
/-! ===== BEGIN words of one list among another's, by their places ===== -/
theorem goodIn_r {big : List Cond} (ws : List Cond) (ps : List Nat) (hp : ws = ps.filterMap (fun i => big[i]?)) (h : ws.all goodWord = true) : GoodIn big ws := by
  intro w hw
  have h1 := List.all_eq_true.mp h w hw
  rw [hp] at hw
  obtain ⟨i, -, hi⟩ := List.mem_filterMap.mp hw
  have hm : w ∈ big := by first | exact List.mem_of_getElem? hi | exact List.getElem?_mem hi
  exact ⟨hm, good_of_word h1⟩
theorem goodIn_app {big a b : List Cond} (ha : GoodIn big a) (hb : GoodIn big b) : GoodIn big (a ++ b) := fun w h => (List.mem_append.mp h).elim (ha w) (hb w)
theorem goodIn_ca {big a b : List Cond} {c : Cond} (ha : GoodIn big (c :: a)) (hb : GoodIn big b) : GoodIn big (c :: (a ++ b)) := fun w h => (List.mem_cons.mp h).elim (fun e => ha w (List.mem_cons.mpr (Or.inl e))) (fun h => (List.mem_append.mp h).elim (fun h => ha w (List.mem_cons.mpr (Or.inr h))) (hb w))
theorem goodIn_sub {big ws : List Cond} (hm : ∀ w ∈ ws, w ∈ big) (h : ws.all goodWord = true) : GoodIn big ws := fun w hw => ⟨hm w hw, good_of_word (List.all_eq_true.mp h w hw)⟩
/-! ===== END ===== -/

/-! ===== BEGIN exceptions that leave a method, and their catching by the caller (launches without stack traces) ===== -/
section VXA
/-! The laws vx_back, vx_callV, vx_callS, vx_callSW, vx_throw0, vx_throwS follow proofs of the library, with one case more: JvmDerived/Free/Laws.lean (Back.of_free), Shelf42/LK1.lean (callV, callS), Shelf/KitTraced.lean (throwNew0V, throwNewS). -/
/-- where a method has thrown q: the class by its name, the cell, what was written, the world -/
def vx_T (XC : String → State → State → Prop) (st : State) (q : Addr) (t : State) (mc ms : Nat) (free : Addr → Prop) : Prop :=
  ∃ (E : String) (ce : Cell) (L : List Loc), XC E st t ∧ t.heap[q]? = some ce ∧ ce.vm = .none ∧ st.vm.findClass E = some ce.cls ∧ st.WarmedH t.vm ∧ st.sameButNew ({ t with vm := st.vm } : State) L mc ms ∧ ∀ z ∈ L, free z.base
def vx_Q (Qc : Array Value → State → Outcome → State → Prop) (XC : String → State → State → Prop) (mc ms : Nat) (free : Addr → Prop) : Array Value → State → Outcome → State → Prop := fun a st o t =>
  (Qc a st o t ∧ ∃ L, FrameEnd st o t L mc ms ∧ ∀ q ∈ L, free q.base) ∨ ∃ q, o = .threw q ∧ vx_T XC st q t mc ms free
/-- a callee that returns or throws -/
def vx_Met (l : Launch) (y : MethodName) (ws : List Cond) (rm : Room) (Pc : Array Value → State → Prop) (Qc : Array Value → State → Outcome → State → Prop) (XC : String → State → State → Prop) (mc ms : Nat) (free : Addr → Prop) : Prop :=
  MetFree l y (headSpec ws rm) Pc (fun _ _ _ _ _ => True) (vx_Q Qc XC mc ms free)
def vx_Post (XC : String → State → State → Prop) (mc ms : Nat) (free : Addr → Prop) : Pt → Array Value → Addr → Pt → Prop := fun A a q B =>
  ∃ (g : JFrame) (mk : MethodId) (t : State) (L : List Loc) (E : String) (ce : Cell), B.U.heap = t.heap ∧ B.U.vm = t.vm ∧ XC E (A.U.calling g mk a) t ∧ t.heap[q]? = some ce ∧ ce.vm = .none ∧ A.U.vm.findClass E = some ce.cls ∧ B.locs = A.locs ++ L ∧ (∀ z ∈ L, free z.base) ∧ B.cells = A.cells + mc ∧ B.slots = A.slots + ms
def vx_Back (l : Launch) (R : Room) (p : Program) (e : Env) (below : List Frame) (s : State) (sargs : Array Value) (y : MethodName) (len W9 : Nat)
    (Pre : Pt → Array Value → Prop) (Post : Pt → Array Value → Option Value → Pt → Prop) (PostX : Pt → Array Value → Addr → Pt → Prop) : Prop :=
  ∀ (m : MethodId) (meth : Method) (c : Code) (A : Pt) (g : JFrame) (ig : Instr) (mk : MethodId) (a : Array Value),
    Stand p l e R s m sargs below meth c A.U A.locs A.cells A.slots → g.method = m → g.locals.size = c.maxLocals → decode c.code g.pc = .ok (ig, len) →
    2 * g.monitorRoom + (g.stack.map fun v => v.category).sum ≤ W9 → A.U.methodNamed? y = some mk → Pre A a →
    (∃ (v : Option Value) (B : Pt), Stand p l e R s m sargs below meth c B.U B.locs B.cells B.slots ∧ Post A a v B ∧
      Steps p.tables e below (doInvoke e (A.U.setTop g) [] mk a).1 (B.U.setTop { g with pc := g.pc + len, stack := v.toList ++ g.stack })) ∨
    (∃ (q : Addr) (B : Pt), Stand p l e R s m sargs below meth c B.U B.locs B.cells B.slots ∧ PostX A a q B ∧
      Steps p.tables e below (doInvoke e (A.U.setTop g) [] mk a).1 ((B.U.setTop g).pushFrame (.throwing q)))
section Payer
variable {l : Launch} {R : Room} {p : Program} {e : Env} {below : List Frame} {s : State} {sargs : Array Value} {y : MethodName} {len W9 : Nat}
theorem vx_back {ws : List Cond} {rm : Room} {Pc : Array Value → State → Prop} {Qc : Array Value → State → Outcome → State → Prop} {XC : String → State → State → Prop} {mc ms : Nat} {free : Addr → Prop} {bytes : ByteArray} {maxL : Nat} {ret : Option FieldType}
    (hM : vx_Met l y ws rm Pc Qc XC mc ms free) (hblind : FrameBlind Pc) (hrc : rm.cells = mc) (hrs : rm.slots = ms)
    (hframes : rm.frames + 1 ≤ R.frames) (hlocals : W9 + (maxL + 11) + rm.locals ≤ R.locals)
    (hws : ∀ w ∈ ws, ∀ a' U, s.WarmedH U.vm → w.before a' U = true) (hcode : Cond.code y bytes maxL ret ∈ ws) (hinit : ∀ a' U, s.WarmedH U.vm → (Cond.initialized y.cls).before a' U = true) :
    vx_Back l R p e below s sargs y len W9 (PreOf R mc ms Pc) (PostOf Qc mc ms free) (vx_Post XC mc ms free) := by
  intro m meth c A g ig mk a X hg hsize hdg hW hn hp
  have h1 : (headSpec ws rm).pre.before a A.U = true := atoms_intro fun w hw => hws w hw _ _ X.warmed
  have h2 : (Cond.code y bytes maxL ret).before a A.U = true := hws _ hcode _ _ X.warmed
  have h3 : (Cond.initialized y.cls).before a A.U = true := hinit _ _ X.warmed
  have h4 : A.cells + (headSpec ws rm).room.cells ≤ R.cells := by rw [show (headSpec ws rm).room.cells = mc from hrc]; exact hp.1
  have h5 : A.slots + (headSpec ws rm).room.slots ≤ R.slots := by rw [show (headSpec ws rm).room.slots = ms from hrs]; exact hp.2.1
  have hPc : Pc a (A.U.calling g mk a) := hblind _ _ _ _ hp.2.2
  obtain ⟨U, Ls, c0, s0⟩ := A
  dsimp only [Pt.U, Pt.locs, Pt.cells, Pt.slots] at h1 h2 h3 h4 h5 X hn hPc ⊢
  obtain ⟨methY, cY, hmY, hcY, -, hlY, -, -, -, -⟩ := Cond.code_spec hn h2
  obtain ⟨kY, hkY, -⟩ := className_of_methodNamed hn
  have hinitY : kY.init = .initialized := Cond.initialized_spec (findClass_of_methodNamed hn) hkY h3
  have h : At U g.method c below := by rw [hg]; exact X.here
  have hlocals9 : W9 + (maxL + 11) + (headSpec ws rm).room.locals ≤ R.locals := hlocals
  have happ : (headSpec ws rm).appliesLoose y e.platform (U.calling g mk a) = true :=
    Spec.appliesLoose_calling (g := g) h hdg hn hkY hinitY
      (X.room_calling (g := g) (R' := (headSpec ws rm).room) hsize hmY hcY hframes (by rw [hlY]; omega) h4 h5) h1
  obtain ⟨mid, hmid⟩ := h.above
  have hfr : (U.setTop g).frames = (.java g :: mid) ++ below := by rw [State.frames_setTop' g h.top, hmid]; rfl
  obtain ⟨o, s₂, hsteps, -, hend, hq⟩ := Steps.callFree hM p X.admits X.cas X.clock (acts := []) hfr happ hPc trivial
  have hq' : vx_Q Qc XC mc ms free a (U.calling g mk a) o s₂ := hq
  rw [State.frames_setTop' g h.top] at hend
  obtain ⟨g₀, hg0⟩ := Option.isSome_iff_exists.mp h.top
  obtain ⟨r, hr⟩ := State.topJava?_eq_some.mp hg0
  have hr' : (({ U with heap := s₂.heap, slotsUsed := s₂.slotsUsed } : State).setVm s₂.vm).frames = .java g₀ :: r := hr
  rcases hq' with ⟨hqc, L, hfe, hL⟩ | ⟨q, rfl, E, ce, L, hx, hce, hcv, hcl, hW₂, hsm, hL⟩
  · obtain ⟨⟨v, rfl⟩, hW₂, e2, q2, q3, q4, q5, q6⟩ := id hfe
    have e3 : s₂ = ({ (U.calling g mk a).setFrames s₂.frames with heap := s₂.heap, slotsUsed := s₂.slotsUsed } : State).setVm s₂.vm := by
      have : s₂ = ({ s₂ with vm := (U.calling g mk a).vm } : State).setVm s₂.vm := rfl
      rw [e2] at this
      exact this
    obtain ⟨c₂, i₂, len₂, hc₂, hd₂, hf₂⟩ := hend
    have hW' : U.WarmedH s₂.vm := hW₂
    have hcc : c₂ = c := by
      have h1 : s₂.code? g.method = U.code? g.method := by
        rw [State.code?_eq, State.code?_eq, hW'.alike.method?]
      exact Option.some.inj (hc₂.symm.trans (h1.trans h.code))
    subst hcc
    have hlen : len₂ = len := by rw [hdg] at hd₂; cases hd₂; rfl
    subst hlen
    have hs₂ : s₂ = (({ U with heap := s₂.heap, slotsUsed := s₂.slotsUsed } : State).setVm s₂.vm).setTop { g with pc := g.pc + len₂, stack := v.toList ++ g.stack } := by
      refine e3.trans ?_
      rw [hf₂, State.calling_eq h.top, State.setFrames_setFrames, State.setTop_of_frames _ hr', hr]
      rfl
    have hsame : U.sameButNew ({ U with heap := s₂.heap, slotsUsed := s₂.slotsUsed } : State) L mc ms := by
      refine ⟨?_, q2, q3, q4, q5, q6⟩
      obtain ⟨t, ht, -⟩ := State.frames_cons hr
      show ({ U with heap := s₂.heap, slotsUsed := s₂.slotsUsed } : State) = { U.setFrames U.frames with heap := s₂.heap, slotsUsed := s₂.slotsUsed }
      rw [State.setFrames_self ht]
    subst hg
    refine Or.inl ⟨v, ⟨(({ U with heap := s₂.heap, slotsUsed := s₂.slotsUsed } : State).setVm s₂.vm), Ls ++ L, c0 + mc, s0 + ms⟩,
      ⟨X.admits, X.cas, X.clock, X.frames, X.room, X.hears, X.method, X.code, (X.here.setHeapUsed s₂.heap s₂.slotsUsed).setVm hW'.alike, X.tail, State.WarmedH.trans X.warmed hW', X.limits, X.bytes, X.same.trans (hsame.setVm s.vm)⟩,
      ⟨g, mk, s₂, L, rfl, rfl, hqc, rfl, hL, rfl, rfl⟩, ?_⟩
    show Steps p.tables e below _ ((({ U with heap := s₂.heap, slotsUsed := s₂.slotsUsed } : State).setVm s₂.vm).setTop { g with pc := g.pc + len₂, stack := v.toList ++ g.stack })
    rw [← hs₂]
    exact hsteps
  · obtain ⟨e2, q2, q3, q4, q5, q6⟩ := id hsm
    have e3 : s₂ = ({ (U.calling g mk a).setFrames s₂.frames with heap := s₂.heap, slotsUsed := s₂.slotsUsed } : State).setVm s₂.vm := by
      have : s₂ = ({ s₂ with vm := (U.calling g mk a).vm } : State).setVm s₂.vm := rfl
      rw [e2] at this
      exact this
    have hf₂ : s₂.frames = .throwing q :: .java g :: U.frames.tail := hend
    have hW' : U.WarmedH s₂.vm := hW₂
    have hs₂ : s₂ = ((({ U with heap := s₂.heap, slotsUsed := s₂.slotsUsed } : State).setVm s₂.vm).setTop g).pushFrame (.throwing q) := by
      refine e3.trans ?_
      rw [hf₂, State.calling_eq h.top, State.setFrames_setFrames, State.pushFrame, State.frames_setTop _ hr', State.setTop_of_frames _ hr', State.setFrames_setFrames, hr]
      rfl
    have hsame : U.sameButNew ({ U with heap := s₂.heap, slotsUsed := s₂.slotsUsed } : State) L mc ms := by
      refine ⟨?_, q2, q3, q4, q5, q6⟩
      obtain ⟨t, ht, -⟩ := State.frames_cons hr
      show ({ U with heap := s₂.heap, slotsUsed := s₂.slotsUsed } : State) = { U.setFrames U.frames with heap := s₂.heap, slotsUsed := s₂.slotsUsed }
      rw [State.setFrames_self ht]
    subst hg
    refine Or.inr ⟨q, ⟨(({ U with heap := s₂.heap, slotsUsed := s₂.slotsUsed } : State).setVm s₂.vm), Ls ++ L, c0 + mc, s0 + ms⟩,
      ⟨X.admits, X.cas, X.clock, X.frames, X.room, X.hears, X.method, X.code, (X.here.setHeapUsed s₂.heap s₂.slotsUsed).setVm hW'.alike, X.tail, State.WarmedH.trans X.warmed hW', X.limits, X.bytes, X.same.trans (hsame.setVm s.vm)⟩,
      ⟨g, mk, s₂, L, E, ce, rfl, rfl, hx, hce, hcv, hcl, rfl, hL, rfl, rfl⟩, ?_⟩
    show Steps p.tables e below _ (((({ U with heap := s₂.heap, slotsUsed := s₂.slotsUsed } : State).setVm s₂.vm).setTop g).pushFrame (.throwing q))
    rw [← hs₂]
    exact hsteps
end Payer
section Calls
variable {p : Program} {l : Launch} {e : Env} {R : Room} {s : State} {m : MethodId} {args : Array Value} {below : List Frame} {meth : Method} {c : Code} {T : State} {locs : List Loc} {cells slots : Nat}
theorem vx_callV (X : Stand p l e R s m args below meth c T locs cells slots) (hexec : p.tables.exec = Jvm.exec) {own C : String} {index : Nat} {y : MethodName} {bytes : ByteArray} {maxL : Nat} {ret : Option FieldType}
    (hown : s.vm.findClass own = some m.cls) (hlink : (Cond.methodLink own index y).before args s = true) (hinst : (Cond.instanceMethod y).before args s = true) (hsel : (Cond.selects C y y).before args s = true)
    (hcode : (Cond.code y bytes maxL ret).before args s = true) (hy : y.cls ≠ "java/lang/invoke/MethodHandle" ∧ y.cls ≠ "java/lang/invoke/VarHandle")
    {W9 : Nat} {Pre : Pt → Array Value → Prop} {Post : Pt → Array Value → Option Value → Pt → Prop} {PostX : Pt → Array Value → Addr → Pt → Prop} (hK : vx_Back l R p e below s args y 3 W9 Pre Post PostX)
    {b : Addr} {cellB : Cell} (hcell : T.heap[b]? = some cellB) (hobj : cellB.vm.isStatics = false) (hcls : s.vm.findClass C = some cellB.cls)
    {g : JFrame} (hg : g.method = m) (hsize : g.locals.size = c.maxLocals) {argsL rest : List Value} (hlen : ∀ sig, parseMethodDescriptor y.desc = some sig → argsL.length = sig.parameters.length)
    (hstack : g.stack = argsL.reverse ++ .ref b :: rest) (hW : 2 * g.monitorRoom + (rest.map fun v => v.category).sum ≤ W9) (hdg : decode c.code g.pc = .ok (.invokevirtual index, 3))
    (hpre : ∀ vm₁, s.WarmedH vm₁ → Pre ⟨T.setVm vm₁, locs, cells, slots⟩ (Value.ref b :: argsL).toArray) :
    (∃ (v : Option Value) (vm₁ : Vm) (B : Pt), s.WarmedH vm₁ ∧ Stand p l e R s m args below meth c B.U B.locs B.cells B.slots ∧ Post ⟨T.setVm vm₁, locs, cells, slots⟩ (Value.ref b :: argsL).toArray v B ∧
      ∀ target, Steps p.tables e below (B.U.setTop { g with pc := g.pc + 3, stack := v.toList ++ rest }) target → Steps p.tables e below (T.setTop g) target) ∨
    (∃ (q : Addr) (vm₁ : Vm) (B : Pt), s.WarmedH vm₁ ∧ Stand p l e R s m args below meth c B.U B.locs B.cells B.slots ∧ PostX ⟨T.setVm vm₁, locs, cells, slots⟩ (Value.ref b :: argsL).toArray q B ∧
      Steps p.tables e below (T.setTop g) ((B.U.setTop { g with stack := rest }).pushFrame (.throwing q))) := by
  obtain ⟨mk, methM, hnamed, hmethM, hstM, habM⟩ := Cond.instanceMethod_spec hinst
  obtain ⟨methM', cM, hmethM', -, -, -, -, -, -, hsigM⟩ := Cond.code_spec hnamed hcode
  cases hmethM.symm.trans hmethM'
  obtain ⟨c2, r2, m2, q1, q2, q3, q4, kP, hkP, hkPi⟩ := Cond.selects_spec hsel
  cases hcls.symm.trans q1
  cases (State.methodFound?_of_named hnamed hy).symm.trans q2
  cases hnamed.symm.trans q3
  have hselP : selectMethod e.platform s.vm cellB.cls mk = .method mk := by rw [Launch.admits_selectMethod X.admits]; exact q4
  obtain ⟨vm₁, X₁, hstep₁⟩ := X.invokevirtual hexec hown hlink hnamed hmethM hstM hkP hkPi hy (a := b) (cell := cellB) hcell
    (fun z h => by rw [h] at hobj; cases hobj) hselP hmethM habM hkP hkPi (g := g) hg (argsL := argsL) (rest := rest) (hlen _ hsigM) hstack hdg
  rcases hK m meth c ⟨T.setVm vm₁, locs, cells, slots⟩ { g with stack := rest } (.invokevirtual index) mk (Value.ref b :: argsL).toArray X₁ hg hsize hdg hW (X₁.named hnamed) (hpre vm₁ X₁.warmed) with ⟨v, B, X', hpost, hsteps⟩ | ⟨q, B, X', hpost, hsteps⟩
  · exact Or.inl ⟨v, vm₁, B, X₁.warmed, X', hpost, fun target h => hstep₁ _ fun acts => by rw [doInvoke_state]; exact hsteps.trans h⟩
  · exact Or.inr ⟨q, vm₁, B, X₁.warmed, X', hpost, hstep₁ _ fun acts => by rw [doInvoke_state]; exact hsteps⟩
theorem vx_callS (X : Stand p l e R s m args below meth c T locs cells slots) (hexec : p.tables.exec = Jvm.exec) {own : String} {index : Nat} {y : MethodName} {bytes : ByteArray} {maxL : Nat} {ret : Option FieldType}
    (hown : s.vm.findClass own = some m.cls) (hlink : (Cond.methodLink own index y).before args s = true) (hstat : (Cond.static y).before args s = true) (hinit : (Cond.initialized y.cls).before args s = true)
    (hcode : (Cond.code y bytes maxL ret).before args s = true) (hy : y.cls ≠ "java/lang/invoke/MethodHandle" ∧ y.cls ≠ "java/lang/invoke/VarHandle")
    {W9 : Nat} {Pre : Pt → Array Value → Prop} {Post : Pt → Array Value → Option Value → Pt → Prop} {PostX : Pt → Array Value → Addr → Pt → Prop} (hK : vx_Back l R p e below s args y 3 W9 Pre Post PostX)
    {g : JFrame} (hg : g.method = m) (hsize : g.locals.size = c.maxLocals) {argsL rest : List Value} (hlen : ∀ sig, parseMethodDescriptor y.desc = some sig → argsL.length = sig.parameters.length)
    (hstack : g.stack = argsL.reverse ++ rest) (hW : 2 * g.monitorRoom + (rest.map fun v => v.category).sum ≤ W9) (hdg : decode c.code g.pc = .ok (.invokestatic index, 3))
    (hpre : ∀ vm₁, s.WarmedH vm₁ → Pre ⟨T.setVm vm₁, locs, cells, slots⟩ argsL.toArray) :
    (∃ (v : Option Value) (vm₁ : Vm) (B : Pt), s.WarmedH vm₁ ∧ Stand p l e R s m args below meth c B.U B.locs B.cells B.slots ∧ Post ⟨T.setVm vm₁, locs, cells, slots⟩ argsL.toArray v B ∧
      ∀ target, Steps p.tables e below (B.U.setTop { g with pc := g.pc + 3, stack := v.toList ++ rest }) target → Steps p.tables e below (T.setTop g) target) ∨
    (∃ (q : Addr) (vm₁ : Vm) (B : Pt), s.WarmedH vm₁ ∧ Stand p l e R s m args below meth c B.U B.locs B.cells B.slots ∧ PostX ⟨T.setVm vm₁, locs, cells, slots⟩ argsL.toArray q B ∧
      Steps p.tables e below (T.setTop g) ((B.U.setTop { g with stack := rest }).pushFrame (.throwing q))) := by
  obtain ⟨mk, hnamed⟩ := Cond.code_named hcode
  obtain ⟨methM, cM, hmethM, -, -, -, -, -, -, hsigM⟩ := Cond.code_spec hnamed hcode
  have hstatic : methM.isStatic = true := Cond.static_spec hnamed hmethM hstat
  obtain ⟨kP, hkP, -⟩ := className_of_methodNamed hnamed
  have hinitP : kP.init = .initialized := Cond.initialized_spec (findClass_of_methodNamed hnamed) hkP hinit
  obtain ⟨vm₁, X₁, hstep₁⟩ := X.invokestatic hexec hown hlink hnamed hmethM hstatic hkP hinitP hy (g := g) hg (argsL := argsL) (rest := rest) (hlen _ hsigM) hstack hdg
  rcases hK m meth c ⟨T.setVm vm₁, locs, cells, slots⟩ { g with stack := rest } (.invokestatic index) mk argsL.toArray X₁ hg hsize hdg hW (X₁.named hnamed) (hpre vm₁ X₁.warmed) with ⟨v, B, X', hpost, hsteps⟩ | ⟨q, B, X', hpost, hsteps⟩
  · exact Or.inl ⟨v, vm₁, B, X₁.warmed, X', hpost, fun target h => hstep₁ _ fun acts => by rw [doInvoke_state]; exact hsteps.trans h⟩
  · exact Or.inr ⟨q, vm₁, B, X₁.warmed, X', hpost, hstep₁ _ fun acts => by rw [doInvoke_state]; exact hsteps⟩
end Calls
theorem vx_cls {s : State} {T : State} {vm₁ : Vm} {E : String} {k : ClassId} (hW : s.WarmedH vm₁) (h : (T.setVm vm₁).vm.findClass E = some k) : s.vm.findClass E = some k := by
  have h1 : vm₁.findClass E = some k := h
  rw [hW.alike.findClass] at h1
  exact h1
/-- the method's frame g, with q thrown over it -/
def vx_W (p : Program) (l : Launch) (e : Env) (R : Room) (s : State) (m : MethodId) (args : Array Value) (below : List Frame) (meth : Method) (c : Code) (H : Heap) (locs : List Loc) (cells slots : Nat) (Q : State → Prop) (g : JFrame) (q : Addr) : Prop :=
  ∀ T : State, T.heap = H → Stand p l e R s m args below meth c T locs cells slots → ∃ t, Steps p.tables e below ((T.setTop g).pushFrame (.throwing q)) t ∧ Q t
def vx_Run (p : Program) (l : Launch) (e : Env) (R : Room) (s : State) (m : MethodId) (args : Array Value) (below : List Frame) (meth : Method) (c : Code) (H : Heap) (locs : List Loc) (cells slots mc ms : Nat) (g : JFrame) (rest : List Value) (Qa : State → Outcome → State → Prop) (XC : String → State → State → Prop) (free : Addr → Prop) : Prop :=
  ∀ T : State, T.heap = H → Stand p l e R s m args below meth c T locs cells slots →
    (∃ (v : Option Value) (st₀ t T' : State) (L : List Loc), st₀.heap = H ∧ Stand p l e R s m args below meth c T' (locs ++ L) (cells + mc) (slots + ms) ∧ (∀ q ∈ L, free q.base) ∧ T'.heap = t.heap ∧ T'.vm = t.vm ∧ Qa st₀ (.returned v) t ∧
      Goes p e below T g T' { g with pc := g.pc + 3, stack := v.toList ++ rest }) ∨
    (∃ (q : Addr) (st₀ t T' : State) (L : List Loc) (E : String) (ce : Cell), st₀.heap = H ∧ Stand p l e R s m args below meth c T' (locs ++ L) (cells + mc) (slots + ms) ∧ (∀ z ∈ L, free z.base) ∧ T'.heap = t.heap ∧ T'.vm = t.vm ∧ XC E st₀ t ∧ t.heap[q]? = some ce ∧ ce.vm = .none ∧ s.vm.findClass E = some ce.cls ∧
      Steps p.tables e below (T.setTop g) ((T'.setTop { g with stack := rest }).pushFrame (.throwing q)))
def vx_X {S : Type} (px : S → Prop) (B : String → S → State → Prop) (A : Nat → Prop) : String → State → State → Prop := fun E st t => ∃ u : S, px u ∧ B E u t ∧ va_F A st t
section Runs
variable {p : Program} {l : Launch} {e : Env} {R : Room} {s : State} {m : MethodId} {args : Array Value} {below : List Frame} {meth : Method} {c : Code} {H : Heap} {locs : List Loc} {cells slots : Nat}
variable {y : MethodName} {bytes cc : ByteArray} {maxL nL mc ms n index : Nat} {ret : Option FieldType} {ws : List Cond} {rm : Room} {Pc : Array Value → State → Prop} {Qc : Array Value → State → Outcome → State → Prop} {XC : String → State → State → Prop} {free : Addr → Prop} {Ts : List Cond} {own C : String} {b : Addr} {As rest : List Value} {g : JFrame}
theorem vx_callBack (cb : CallB R s args own index y bytes maxL ret ws rm mc ms n) (hM : vx_Met l y ws rm Pc Qc XC mc ms free) (hbl : FrameBlind Pc) : vx_Back l R p e below s args y 3 8 (PreOf R mc ms Pc) (PostOf Qc mc ms free) (vx_Post XC mc ms free) := by
  obtain ⟨hrc, hrs, hfr, hlo, hws, hcw, -, hini, -⟩ := cb
  exact vx_back (bytes := bytes) (maxL := maxL) (ret := ret) hM hbl hrc hrs hfr hlo hws hcw (fun a' U hW => word_at hW (Or.inl (by first | rfl | simp [Cond.onTables, Cond.keeps, Cond.steady])) hini)
theorem vx_runV (S : CallFix p m c cc nL s args Ts own) (hM : vx_Met l y ws rm Pc Qc XC mc ms free) (cw : CallW R s args own C index y bytes maxL ret ws rm mc ms n) (hp : PreV s H C b Pc As)
    (hg : g.method = m) (hn : As.length = n) (hsize : g.locals.size = nL) (hstack : g.stack = As.reverse ++ .ref b :: rest) (hW : 2 * g.monitorRoom + (rest.map fun v => v.category).sum ≤ 8) (hdg : decode cc g.pc = .ok (.invokevirtual index, 3)) (hf : cells + mc ≤ R.cells ∧ slots + ms ≤ R.slots) :
    vx_Run p l e R s m args below meth c H locs cells slots mc ms g rest (Qc (Value.ref b :: As).toArray) XC free := by
  have hK : vx_Back l R p e below s args y 3 8 (PreOf R mc ms Pc) (PostOf Qc mc ms free) (vx_Post XC mc ms free) := vx_callBack cw.1 hM hp.1
  obtain ⟨⟨-, -, -, -, -, -, hcode, -, hy, hlen, hl⟩, hin, hse⟩ := cw
  obtain ⟨hx, hb, hml, ho, -⟩ := S
  obtain ⟨-, ⟨cellB, hcB, hoB, hclB⟩, hPc⟩ := hp
  intro T hT X
  rcases vx_callV X hx (C := C) (bytes := bytes) (maxL := maxL) (ret := ret) ho hl hin hse hcode hy hK (by rw [hT]; exact hcB) hoB hclB hg (hsize.trans hml.symm) (argsL := As) (rest := rest) (fun sig h => hn.trans (hlen sig h)) hstack hW (by rw [hb]; exact hdg)
    (fun vm₁ hW₁ => ⟨hf.1, hf.2, hPc (T.setVm vm₁) hT hW₁⟩) with ⟨v, vm₁, ⟨U', l2, c2, s2⟩, hW₁, X', ⟨g', mk, t, L, e1, e2, hq, h1, hL, h2, h3⟩, st⟩ | ⟨q, vm₁, ⟨U', l2, c2, s2⟩, hW₁, X', ⟨g', mk, t, L, E, ce, e1, e2, hq, hce, hcv, hcl, h1, hL, h2, h3⟩, st⟩
  · dsimp only [Pt.U, Pt.locs, Pt.cells, Pt.slots] at X' e1 e2 h1 h2 h3 st
    subst h1; subst h2; subst h3
    exact Or.inl ⟨v, (T.setVm vm₁).calling g' mk (Value.ref b :: As).toArray, t, U', L, hT, X', hL, e1, e2, hq, st⟩
  · dsimp only [Pt.U, Pt.locs, Pt.cells, Pt.slots] at X' e1 e2 h1 h2 h3 st hcl
    subst h1; subst h2; subst h3
    exact Or.inr ⟨q, (T.setVm vm₁).calling g' mk (Value.ref b :: As).toArray, t, U', L, E, ce, hT, X', hL, e1, e2, hq, hce, hcv, vx_cls hW₁ hcl, st⟩
theorem vx_runS (S : CallFix p m c cc nL s args Ts own) (hM : vx_Met l y ws rm Pc Qc XC mc ms free) (cw : CallB R s args own index y bytes maxL ret ws rm mc ms n ∧ (Cond.static y).before args s = true) (hp : PreS s H Pc As)
    (hg : g.method = m) (hn : As.length = n) (hsize : g.locals.size = nL) (hstack : g.stack = As.reverse ++ rest) (hW : 2 * g.monitorRoom + (rest.map fun v => v.category).sum ≤ 8) (hdg : decode cc g.pc = .ok (.invokestatic index, 3)) (hf : cells + mc ≤ R.cells ∧ slots + ms ≤ R.slots) :
    vx_Run p l e R s m args below meth c H locs cells slots mc ms g rest (Qc As.toArray) XC free := by
  have hK : vx_Back l R p e below s args y 3 8 (PreOf R mc ms Pc) (PostOf Qc mc ms free) (vx_Post XC mc ms free) := vx_callBack cw.1 hM hp.1
  obtain ⟨⟨-, -, -, -, -, -, hcode, hini, hy, hlen, hl⟩, hstt⟩ := cw
  obtain ⟨hx, hb, hml, ho, -⟩ := S
  intro T hT X
  rcases vx_callS X hx (bytes := bytes) (maxL := maxL) (ret := ret) ho hl hstt hini hcode hy hK hg (hsize.trans hml.symm) (argsL := As) (rest := rest) (fun sig h => hn.trans (hlen sig h)) hstack hW (by rw [hb]; exact hdg)
    (fun vm₁ hW₁ => ⟨hf.1, hf.2, hp.2 (T.setVm vm₁) hT hW₁⟩) with ⟨v, vm₁, ⟨U', l2, c2, s2⟩, hW₁, X', ⟨g', mk, t, L, e1, e2, hq, h1, hL, h2, h3⟩, st⟩ | ⟨q, vm₁, ⟨U', l2, c2, s2⟩, hW₁, X', ⟨g', mk, t, L, E, ce, e1, e2, hq, hce, hcv, hcl, h1, hL, h2, h3⟩, st⟩
  · dsimp only [Pt.U, Pt.locs, Pt.cells, Pt.slots] at X' e1 e2 h1 h2 h3 st
    subst h1; subst h2; subst h3
    exact Or.inl ⟨v, (T.setVm vm₁).calling g' mk As.toArray, t, U', L, hT, X', hL, e1, e2, hq, st⟩
  · dsimp only [Pt.U, Pt.locs, Pt.cells, Pt.slots] at X' e1 e2 h1 h2 h3 st hcl
    subst h1; subst h2; subst h3
    exact Or.inr ⟨q, (T.setVm vm₁).calling g' mk As.toArray, t, U', L, E, ce, hT, X', hL, e1, e2, hq, hce, hcv, vx_cls hW₁ hcl, st⟩
end Runs
section Rows
variable {p : Program} {l : Launch} {e : Env} {R : Room} {s : State} {m : MethodId} {args : Array Value} {below : List Frame} {meth : Method} {c : Code} {H : Heap} {locs : List Loc} {cells slots : Nat} {Q : State → Prop}
variable {mc ms : Nat} {free : Addr → Prop} {A0 A1 : Nat → Prop} {H0 : Heap} {a : Array Value} {pc : Nat} {ls : Array Slot} {st0 rest : List Value}
theorem vx_keep {st₀ t T' : State} {L : List Loc} (h0 : st₀.heap = H) (e1 : T'.heap = t.heap) (hS : va_S A0 H0 H locs) (hA : ∀ q, q < H.size → A1 q → A0 q) (hf : ∀ q, free q → A0 q) (hL : ∀ q ∈ L, free q.base) (hF : va_F A1 st₀ t) :
    H.size ≤ T'.heap.size ∧ (∀ q : Nat, q < H.size → ¬ A1 q → T'.heap[q]? = H[q]?) ∧ va_S A0 H0 T'.heap (locs ++ L) := by
  obtain ⟨hz, hk⟩ := hF
  rw [h0] at hz hk
  exact ⟨by rw [e1]; exact hz, fun q h1 h2 => by rw [e1]; exact hk q h1 h2,
    ⟨Nat.le_trans hS.1 (by rw [e1]; exact hz), fun q h1 h2 => by rw [e1, hk q (Nat.lt_of_lt_of_le h1 hS.1) (fun z => h2 (hA q (Nat.lt_of_lt_of_le h1 hS.1) z))]; exact hS.2.1 q h1 h2, fun q hq => by
      rcases List.mem_append.mp hq with h | h
      · exact hS.2.2 q h
      · exact hf _ (hL q h)⟩⟩
theorem vx_calli {S SX : Type} {post : Int32 → S → Prop} {px : SX → Prop} {B : S → State → Prop} {BX : String → SX → State → Prop} {AX : Nat → Prop} (hr : vx_Run p l e R s m args below meth c H locs cells slots mc ms (F0 m pc ls st0) rest (va_Qi post B A1 a) (vx_X px BX AX) free) (hS : va_S A0 H0 H locs) (hA : ∀ q, q < H.size → A1 q → A0 q) (hf : ∀ q, free q → A0 q) (hAX : ∀ q, q < H.size → AX q → A0 q)
    (kx : ∀ (E : String) (ce : Cell) (q9 : Addr) (u : SX) (t : State) (H1 : Heap) (locs1 : List Loc), t.heap = H1 → s.vm.Alike t.vm → px u → BX E u t → H.size ≤ H1.size → (∀ q : Nat, q < H.size → ¬ AX q → H1[q]? = H[q]?) → va_S A0 H0 H1 locs1 → H1[q9]? = some ce → ce.vm = .none → s.vm.findClass E = some ce.cls → vx_W p l e R s m args below meth c H1 locs1 (cells + mc) (slots + ms) Q (F0 m pc ls rest) q9)
    (kk : ∀ (r : Int32) (u : S) (t : State) (H1 : Heap) (locs1 : List Loc), t.heap = H1 → s.vm.Alike t.vm → post r u → B u t → H.size ≤ H1.size → (∀ q : Nat, q < H.size → ¬ A1 q → H1[q]? = H[q]?) → va_S A0 H0 H1 locs1 → W p l e R s m args below meth c H1 locs1 (cells + mc) (slots + ms) Q (F0 m (pc + 3) ls (.int r :: rest))) : W p l e R s m args below meth c H locs cells slots Q (F0 m pc ls st0) := by
  intro T hT X
  rcases hr T hT X with ⟨v, st₀, t, T', L, h0, X', hL, e1, e2, ⟨⟨r, u, hv, hp, hb⟩, hF⟩, st⟩ | ⟨q, st₀, t, T', L, E, ce, h0, X', hL, e1, e2, ⟨u, hp, hb, hF⟩, hce, hcv, hcl, st⟩
  · cases hv
    obtain ⟨k1, k2, k3⟩ := vx_keep h0 e1 hS hA hf hL hF
    obtain ⟨t2, a1, b1⟩ := kk r u t T'.heap (locs ++ L) e1.symm (by rw [← e2]; exact X'.warmed.alike) hp hb k1 k2 k3 T' rfl X'
    exact ⟨t2, st t2 a1, b1⟩
  · obtain ⟨k1, k2, k3⟩ := vx_keep h0 e1 hS hAX hf hL hF
    obtain ⟨t2, a1, b1⟩ := kx E ce q u t T'.heap (locs ++ L) e1.symm (by rw [← e2]; exact X'.warmed.alike) hp hb k1 k2 k3 (by rw [e1]; exact hce) hcv hcl T' rfl X'
    exact ⟨t2, st.trans a1, b1⟩
theorem vx_calll {S SX : Type} {post : Int64 → S → Prop} {px : SX → Prop} {B : S → State → Prop} {BX : String → SX → State → Prop} {AX : Nat → Prop} (hr : vx_Run p l e R s m args below meth c H locs cells slots mc ms (F0 m pc ls st0) rest (va_Ql post B A1 a) (vx_X px BX AX) free) (hS : va_S A0 H0 H locs) (hA : ∀ q, q < H.size → A1 q → A0 q) (hf : ∀ q, free q → A0 q) (hAX : ∀ q, q < H.size → AX q → A0 q)
    (kx : ∀ (E : String) (ce : Cell) (q9 : Addr) (u : SX) (t : State) (H1 : Heap) (locs1 : List Loc), t.heap = H1 → s.vm.Alike t.vm → px u → BX E u t → H.size ≤ H1.size → (∀ q : Nat, q < H.size → ¬ AX q → H1[q]? = H[q]?) → va_S A0 H0 H1 locs1 → H1[q9]? = some ce → ce.vm = .none → s.vm.findClass E = some ce.cls → vx_W p l e R s m args below meth c H1 locs1 (cells + mc) (slots + ms) Q (F0 m pc ls rest) q9)
    (kk : ∀ (r : Int64) (u : S) (t : State) (H1 : Heap) (locs1 : List Loc), t.heap = H1 → s.vm.Alike t.vm → post r u → B u t → H.size ≤ H1.size → (∀ q : Nat, q < H.size → ¬ A1 q → H1[q]? = H[q]?) → va_S A0 H0 H1 locs1 → W p l e R s m args below meth c H1 locs1 (cells + mc) (slots + ms) Q (F0 m (pc + 3) ls (.long r :: rest))) : W p l e R s m args below meth c H locs cells slots Q (F0 m pc ls st0) := by
  intro T hT X
  rcases hr T hT X with ⟨v, st₀, t, T', L, h0, X', hL, e1, e2, ⟨⟨r, u, hv, hp, hb⟩, hF⟩, st⟩ | ⟨q, st₀, t, T', L, E, ce, h0, X', hL, e1, e2, ⟨u, hp, hb, hF⟩, hce, hcv, hcl, st⟩
  · cases hv
    obtain ⟨k1, k2, k3⟩ := vx_keep h0 e1 hS hA hf hL hF
    obtain ⟨t2, a1, b1⟩ := kk r u t T'.heap (locs ++ L) e1.symm (by rw [← e2]; exact X'.warmed.alike) hp hb k1 k2 k3 T' rfl X'
    exact ⟨t2, st t2 a1, b1⟩
  · obtain ⟨k1, k2, k3⟩ := vx_keep h0 e1 hS hAX hf hL hF
    obtain ⟨t2, a1, b1⟩ := kx E ce q u t T'.heap (locs ++ L) e1.symm (by rw [← e2]; exact X'.warmed.alike) hp hb k1 k2 k3 (by rw [e1]; exact hce) hcv hcl T' rfl X'
    exact ⟨t2, st.trans a1, b1⟩
theorem vx_callf {S SX : Type} {post : UInt32 → S → Prop} {px : SX → Prop} {B : S → State → Prop} {BX : String → SX → State → Prop} {AX : Nat → Prop} (hr : vx_Run p l e R s m args below meth c H locs cells slots mc ms (F0 m pc ls st0) rest (va_Qf post B A1 a) (vx_X px BX AX) free) (hS : va_S A0 H0 H locs) (hA : ∀ q, q < H.size → A1 q → A0 q) (hf : ∀ q, free q → A0 q) (hAX : ∀ q, q < H.size → AX q → A0 q)
    (kx : ∀ (E : String) (ce : Cell) (q9 : Addr) (u : SX) (t : State) (H1 : Heap) (locs1 : List Loc), t.heap = H1 → s.vm.Alike t.vm → px u → BX E u t → H.size ≤ H1.size → (∀ q : Nat, q < H.size → ¬ AX q → H1[q]? = H[q]?) → va_S A0 H0 H1 locs1 → H1[q9]? = some ce → ce.vm = .none → s.vm.findClass E = some ce.cls → vx_W p l e R s m args below meth c H1 locs1 (cells + mc) (slots + ms) Q (F0 m pc ls rest) q9)
    (kk : ∀ (r : UInt32) (u : S) (t : State) (H1 : Heap) (locs1 : List Loc), t.heap = H1 → s.vm.Alike t.vm → post r u → B u t → H.size ≤ H1.size → (∀ q : Nat, q < H.size → ¬ A1 q → H1[q]? = H[q]?) → va_S A0 H0 H1 locs1 → W p l e R s m args below meth c H1 locs1 (cells + mc) (slots + ms) Q (F0 m (pc + 3) ls (.float r :: rest))) : W p l e R s m args below meth c H locs cells slots Q (F0 m pc ls st0) := by
  intro T hT X
  rcases hr T hT X with ⟨v, st₀, t, T', L, h0, X', hL, e1, e2, ⟨⟨r, u, hv, hp, hb⟩, hF⟩, st⟩ | ⟨q, st₀, t, T', L, E, ce, h0, X', hL, e1, e2, ⟨u, hp, hb, hF⟩, hce, hcv, hcl, st⟩
  · cases hv
    obtain ⟨k1, k2, k3⟩ := vx_keep h0 e1 hS hA hf hL hF
    obtain ⟨t2, a1, b1⟩ := kk r u t T'.heap (locs ++ L) e1.symm (by rw [← e2]; exact X'.warmed.alike) hp hb k1 k2 k3 T' rfl X'
    exact ⟨t2, st t2 a1, b1⟩
  · obtain ⟨k1, k2, k3⟩ := vx_keep h0 e1 hS hAX hf hL hF
    obtain ⟨t2, a1, b1⟩ := kx E ce q u t T'.heap (locs ++ L) e1.symm (by rw [← e2]; exact X'.warmed.alike) hp hb k1 k2 k3 (by rw [e1]; exact hce) hcv hcl T' rfl X'
    exact ⟨t2, st.trans a1, b1⟩
theorem vx_calld {S SX : Type} {post : UInt64 → S → Prop} {px : SX → Prop} {B : S → State → Prop} {BX : String → SX → State → Prop} {AX : Nat → Prop} (hr : vx_Run p l e R s m args below meth c H locs cells slots mc ms (F0 m pc ls st0) rest (va_Qd post B A1 a) (vx_X px BX AX) free) (hS : va_S A0 H0 H locs) (hA : ∀ q, q < H.size → A1 q → A0 q) (hf : ∀ q, free q → A0 q) (hAX : ∀ q, q < H.size → AX q → A0 q)
    (kx : ∀ (E : String) (ce : Cell) (q9 : Addr) (u : SX) (t : State) (H1 : Heap) (locs1 : List Loc), t.heap = H1 → s.vm.Alike t.vm → px u → BX E u t → H.size ≤ H1.size → (∀ q : Nat, q < H.size → ¬ AX q → H1[q]? = H[q]?) → va_S A0 H0 H1 locs1 → H1[q9]? = some ce → ce.vm = .none → s.vm.findClass E = some ce.cls → vx_W p l e R s m args below meth c H1 locs1 (cells + mc) (slots + ms) Q (F0 m pc ls rest) q9)
    (kk : ∀ (r : UInt64) (u : S) (t : State) (H1 : Heap) (locs1 : List Loc), t.heap = H1 → s.vm.Alike t.vm → post r u → B u t → H.size ≤ H1.size → (∀ q : Nat, q < H.size → ¬ A1 q → H1[q]? = H[q]?) → va_S A0 H0 H1 locs1 → W p l e R s m args below meth c H1 locs1 (cells + mc) (slots + ms) Q (F0 m (pc + 3) ls (.double r :: rest))) : W p l e R s m args below meth c H locs cells slots Q (F0 m pc ls st0) := by
  intro T hT X
  rcases hr T hT X with ⟨v, st₀, t, T', L, h0, X', hL, e1, e2, ⟨⟨r, u, hv, hp, hb⟩, hF⟩, st⟩ | ⟨q, st₀, t, T', L, E, ce, h0, X', hL, e1, e2, ⟨u, hp, hb, hF⟩, hce, hcv, hcl, st⟩
  · cases hv
    obtain ⟨k1, k2, k3⟩ := vx_keep h0 e1 hS hA hf hL hF
    obtain ⟨t2, a1, b1⟩ := kk r u t T'.heap (locs ++ L) e1.symm (by rw [← e2]; exact X'.warmed.alike) hp hb k1 k2 k3 T' rfl X'
    exact ⟨t2, st t2 a1, b1⟩
  · obtain ⟨k1, k2, k3⟩ := vx_keep h0 e1 hS hAX hf hL hF
    obtain ⟨t2, a1, b1⟩ := kx E ce q u t T'.heap (locs ++ L) e1.symm (by rw [← e2]; exact X'.warmed.alike) hp hb k1 k2 k3 (by rw [e1]; exact hce) hcv hcl T' rfl X'
    exact ⟨t2, st.trans a1, b1⟩
theorem vx_callv {S SX : Type} {post : S → Prop} {px : SX → Prop} {B : S → State → Prop} {BX : String → SX → State → Prop} {AX : Nat → Prop} (hr : vx_Run p l e R s m args below meth c H locs cells slots mc ms (F0 m pc ls st0) rest (va_Qv post B A1 a) (vx_X px BX AX) free) (hS : va_S A0 H0 H locs) (hA : ∀ q, q < H.size → A1 q → A0 q) (hf : ∀ q, free q → A0 q) (hAX : ∀ q, q < H.size → AX q → A0 q)
    (kx : ∀ (E : String) (ce : Cell) (q9 : Addr) (u : SX) (t : State) (H1 : Heap) (locs1 : List Loc), t.heap = H1 → s.vm.Alike t.vm → px u → BX E u t → H.size ≤ H1.size → (∀ q : Nat, q < H.size → ¬ AX q → H1[q]? = H[q]?) → va_S A0 H0 H1 locs1 → H1[q9]? = some ce → ce.vm = .none → s.vm.findClass E = some ce.cls → vx_W p l e R s m args below meth c H1 locs1 (cells + mc) (slots + ms) Q (F0 m pc ls rest) q9)
    (kk : ∀ (u : S) (t : State) (H1 : Heap) (locs1 : List Loc), t.heap = H1 → s.vm.Alike t.vm → post u → B u t → H.size ≤ H1.size → (∀ q : Nat, q < H.size → ¬ A1 q → H1[q]? = H[q]?) → va_S A0 H0 H1 locs1 → W p l e R s m args below meth c H1 locs1 (cells + mc) (slots + ms) Q (F0 m (pc + 3) ls (rest))) : W p l e R s m args below meth c H locs cells slots Q (F0 m pc ls st0) := by
  intro T hT X
  rcases hr T hT X with ⟨v, st₀, t, T', L, h0, X', hL, e1, e2, ⟨⟨u, hv, hp, hb⟩, hF⟩, st⟩ | ⟨q, st₀, t, T', L, E, ce, h0, X', hL, e1, e2, ⟨u, hp, hb, hF⟩, hce, hcv, hcl, st⟩
  · cases hv
    obtain ⟨k1, k2, k3⟩ := vx_keep h0 e1 hS hA hf hL hF
    obtain ⟨t2, a1, b1⟩ := kk u t T'.heap (locs ++ L) e1.symm (by rw [← e2]; exact X'.warmed.alike) hp hb k1 k2 k3 T' rfl X'
    exact ⟨t2, st t2 a1, b1⟩
  · obtain ⟨k1, k2, k3⟩ := vx_keep h0 e1 hS hAX hf hL hF
    obtain ⟨t2, a1, b1⟩ := kx E ce q u t T'.heap (locs ++ L) e1.symm (by rw [← e2]; exact X'.warmed.alike) hp hb k1 k2 k3 (by rw [e1]; exact hce) hcv hcl T' rfl X'
    exact ⟨t2, st.trans a1, b1⟩
/-- caught by the row x of this method's table; the rows ahead don't take it -/
theorem vx_catch {own name : String} {E : String} {ce : Cell} {q : Addr} (hown : s.vm.findClass own = some m.cls) (pre : List ExceptionTableEntry) (x : ExceptionTableEntry) (suf : List ExceptionTableEntry) (hsplit : c.exceptionTable.toList = pre ++ x :: suf)
    (hpass : ∀ z ∈ pre, covers z pc = false ∨ (z.catchType ≠ 0 ∧ ∃ nm : String, (Cond.classLink own z.catchType nm).before args s = true ∧ va_Nc E nm s)) (hx : covers x pc = true) (h0 : x.catchType ≠ 0)
    (hlink : (Cond.classLink own x.catchType name).before args s = true) (hcast : (Cond.castable E name).before args s = true) (hcell : H[q]? = some ce) (hv : ce.vm = .none) (hcl : s.vm.findClass E = some ce.cls)
    (kk : W p l e R s m args below meth c H locs cells slots Q (F0 m x.handlerPc ls [.ref q])) : vx_W p l e R s m args below meth c H locs cells slots Q (F0 m pc ls rest) q := by
  intro T hT X
  have hpl : e.platform.magicAccessors = ({} : Platform).magicAccessors := by rw [X.admits.platform]
  obtain ⟨c3, c4, hc3, hc4, hasg⟩ := Cond.castable_spec hcast
  cases Option.some.inj (hc3.symm.trans hcl)
  obtain ⟨c5, hc5, hcl5⟩ := Cond.classLink_spec hown hlink e.platform hpl
  cases Option.some.inj (hc4.symm.trans hc5)
  obtain ⟨vm', X', st⟩ := X.thenCaughtThrough q (g := F0 m pc ls rest) rfl (Steps.refl _) (by rw [hT]; exact hcell) (by rw [hv]; rfl) (by obtain ⟨k9, h9, -⟩ := Vm.findClass_spec hcl; exact ⟨k9, h9⟩) pre x suf hsplit
    (fun z hz => by
      rcases hpass z hz with h | ⟨hz0, nm, hl1, hn1⟩
      · exact Or.inl h
      · obtain ⟨c6, hc6, hcl6⟩ := Cond.classLink_spec hown hl1 e.platform hpl
        obtain ⟨a8, b8, h1, h2, h3⟩ := hn1
        cases Option.some.inj (h1.symm.trans hcl)
        cases Option.some.inj (h2.symm.trans hc6)
        exact Or.inr ⟨hz0, _, hcl6, h3⟩) hx (Or.inr ⟨h0, c4, hcl5, hasg⟩)
  obtain ⟨t, a1, b1⟩ := kk (T.setVm vm') hT X'
  exact ⟨t, st.trans a1, b1⟩
end Rows
section Ends
variable {p : Program} {l : Launch} {e : Env} {R : Room} {s : State} {m : MethodId} {args : Array Value} {below : List Frame} {meth : Method} {c : Code} {H : Heap} {locs : List Loc} {cells slots : Nat} {Q : State → Prop}
variable {mc ms : Nat} {free : Addr → Prop} {A0 A1 : Nat → Prop} {H0 : Heap} {a : Array Value} {ls : Array Slot} {st0 rest : List Value}
variable {Qc : Array Value → State → Outcome → State → Prop} {XC : String → State → State → Prop}
/-- what a body that may throw owes at its end -/
def vx_MQ (below : List Frame) (Qc : Array Value → State → Outcome → State → Prop) (XC : String → State → State → Prop) (a : Array Value) (s : State) (mc ms : Nat) (free : Addr → Prop) : State → Prop := fun t =>
  ∃ o, t.status = .running ∧ Ended t below o ∧ vx_Q Qc XC mc ms free a s o t
theorem vx_ret {g : JFrame} {mc ms : Nat} (k : W p l e R s m args below meth c H locs cells slots (MQ below Qc args s mc ms free) g) : W p l e R s m args below meth c H locs cells slots (vx_MQ below Qc XC args s mc ms free) g := by
  intro T hT X
  obtain ⟨t, a1, o, b1, b2, b3, b4⟩ := k T hT X
  exact ⟨t, a1, o, b1, b2, Or.inl ⟨b3, b4⟩⟩
/-- not caught here: it goes on to the caller -/
theorem vx_widen {g : JFrame} {q : Addr} {k n : Nat} (h1 : cells ≤ k) (h2 : slots ≤ n) (kk : vx_W p l e R s m args below meth c H locs k n Q g q) : vx_W p l e R s m args below meth c H locs cells slots Q g q := fun T hT X => kk T hT (stand_widen X h1 h2)
theorem vx_out {pc : Nat} {E : String} {ce : Cell} {q : Addr} {mc ms : Nat} (hout : ∀ x ∈ c.exceptionTable.toList, covers x pc = false) (hlocks : meth.locks = false) (hcell : H[q]? = some ce) (hv : ce.vm = .none) (hcl : s.vm.findClass E = some ce.cls)
    (hx : ∀ t : State, t.heap = H → s.vm.Alike t.vm → XC E s t) (hf : ∀ z ∈ locs, free z.base) (hc : cells ≤ mc) (hs : slots ≤ ms) :
    vx_W p l e R s m args below meth c H locs cells slots (vx_MQ below Qc XC args s mc ms free) (F0 m pc ls rest) q := by
  intro T hT X
  obtain ⟨st1, hrun, hend, hW, hsm⟩ := X.leaveThrown q (g := F0 m pc ls rest) rfl rfl rfl hout hlocks
  have hcell9 : (T.setFrames (.throwing q :: below)).heap[q]? = some ce := by
    show T.heap[q]? = some ce
    rw [hT]; exact hcell
  exact ⟨_, st1, .threw q, hrun, hend, Or.inr ⟨q, rfl, E, ce, locs, hx _ hT hW.alike, hcell9, hv, hcl, hW, hsm.mono hc hs, hf⟩⟩
theorem vx_frame {U : State} {k n : Nat} (h : s.sameButNew ({ U with vm := s.vm } : State) locs k n) : s.heap.size ≤ U.heap.size ∧ ∀ q : Nat, q < s.heap.size → (∀ z ∈ locs, z.base ≠ q) → U.heap[q]? = s.heap[q]? := by
  obtain ⟨-, h2, -, -, -, h6⟩ := h
  refine ⟨h2, fun q hq hz => ?_⟩
  obtain ⟨c9, e1, e2, e3, e4⟩ := h6 q _ (Array.getElem?_eq_getElem hq)
  have hs : c9.slots = (s.heap[q]).slots := Array.ext_getElem? fun i => e4 i fun hm => hz _ hm rfl
  have h9 : c9 = s.heap[q] := by
    rw [hs] at e2
    exact e2
  have e5 : U.heap[q]? = some c9 := e1
  rw [e5, h9, Array.getElem?_eq_getElem hq]
/-- the words of a throw but the four that speak of the heap -/
def vx_no (w : Cond) : Bool := decide (w ≠ .isRef (.static Bundle.tN "UNASSIGNED_STACK" Bundle.steD)) && decide (w ≠ .isRef (.static Bundle.tN "SUPPRESSED_SENTINEL" Bundle.listD)) && decide (w ≠ .laysStatic Bundle.tN "UNASSIGNED_STACK" Bundle.steD) && decide (w ≠ .laysStatic Bundle.tN "SUPPRESSED_SENTINEL" Bundle.listD)
def vx_at0 (own : String) (ic : Nat) (X : String) (names : List String) : List Cond := (Bundle.ownAtoms0 own ic X names).filter vx_no
def vx_atS (own : String) (ic : Nat) (X : String) (names : List String) : List Cond := (Bundle.ownAtoms own ic X names).filter vx_no
/-- a word that the tables alone decide, or a good one -/
def vx_ot (w : Cond) : Bool := w.onTables || goodWord w
theorem vx_ot_at {args a' : Array Value} {s U : State} {w : Cond} (hW : s.WarmedH U.vm) (hvm : s.vm = U.vm) (hg : vx_ot w = true) (h : w.before args s = true) : w.before a' U = true := by
  simp only [vx_ot, Bool.or_eq_true] at hg
  rcases hg with hg | hg
  · exact va_tabs hg hvm h
  · exact word_at hW (good_of_word hg) h
/-- a list's words: the good ones out of the method's own list, the others by premises of their own -/
theorem vx_hat {args : Array Value} {s : State} {L B : List Cond} (h1 : ∀ w ∈ L.filter goodWord, w.before args s = true) (h2 : ∀ w ∈ L.filter (fun w => !goodWord w), w ∈ B) (h3 : ∀ w ∈ B, w.before args s = true) : ∀ w ∈ L, w.before args s = true := by
  intro w hw
  by_cases g : goodWord w = true
  · exact h1 w (List.mem_filter.mpr ⟨hw, g⟩)
  · refine h3 w (h2 w (List.mem_filter.mpr ⟨hw, ?_⟩))
    show (!goodWord w) = true
    cases hgw : goodWord w
    · rfl
    · exact absurd hgw g
theorem vx_c {args : Array Value} {s : State} {w : Cond} {B : List Cond} (h : w.before args s = true) (t : ∀ w ∈ B, w.before args s = true) : ∀ w' ∈ w :: B, w'.before args s = true := fun w' h' => (List.mem_cons.mp h').elim (fun e => by rw [e]; exact h) (t w')
theorem vx_n {args : Array Value} {s : State} : ∀ w ∈ ([] : List Cond), w.before args s = true := fun _ h => nomatch h
theorem vx_own {args : Array Value} {s : State} {L : List Cond} (h1 : ∀ w ∈ L.filter vx_no, w.before args s = true)
    (hU : (Cond.isRef (.static Bundle.tN "UNASSIGNED_STACK" Bundle.steD)).before args s = true) (hN : (Cond.isRef (.static Bundle.tN "SUPPRESSED_SENTINEL" Bundle.listD)).before args s = true)
    (lU : (Cond.laysStatic Bundle.tN "UNASSIGNED_STACK" Bundle.steD).before args s = true) (lN : (Cond.laysStatic Bundle.tN "SUPPRESSED_SENTINEL" Bundle.listD).before args s = true) : ∀ w ∈ L, w.before args s = true := by
  intro w hw
  by_cases e1 : w = .isRef (.static Bundle.tN "UNASSIGNED_STACK" Bundle.steD)
  · rw [e1]; exact hU
  · by_cases e2 : w = .isRef (.static Bundle.tN "SUPPRESSED_SENTINEL" Bundle.listD)
    · rw [e2]; exact hN
    · by_cases e3 : w = .laysStatic Bundle.tN "UNASSIGNED_STACK" Bundle.steD
      · rw [e3]; exact lU
      · by_cases e4 : w = .laysStatic Bundle.tN "SUPPRESSED_SENTINEL" Bundle.listD
        · rw [e4]; exact lN
        · exact h1 w (List.mem_filter.mpr ⟨hw, by unfold vx_no; rw [decide_eq_true e1, decide_eq_true e2, decide_eq_true e3, decide_eq_true e4]; rfl⟩)
/-- where a static field lies, its class's statics cell in H -/
def vx_L (C n d : String) (A : Nat → Prop) (U : State) (H : Heap) : Prop := ∃ (c : ClassId) (k : Class) (i : Nat) (f : Field) (a : Nat) (cell : Cell), U.vm.findClass C = some c ∧ U.fieldFound? C n d = some (c, k, i, f) ∧ f.isStatic = true ∧ k.statics = some a ∧ H[a]? = some cell ∧ cell.vm.isStatics = true ∧ cell.cls = c ∧ f.slot < cell.slots.size ∧ k.staticTypes[f.slot]? = some f.type ∧ ¬ A a
theorem vx_L.moved {C n d : String} {A : Nat → Prop} {u U : State} {H : Heap} (hvm : u.vm.Alike U.vm) (h : vx_L C n d A u H) : vx_L C n d A U H := by
  obtain ⟨c, k, i, f, a, cell, h1, h2, h3, h4, h5, h6, h7, h8, h9, h10⟩ := h
  obtain ⟨k', hi', he⟩ := State.fieldFound?_setVm hvm h2
  exact ⟨c, k', i, f, a, cell, by rw [hvm.findClass]; exact h1, hi', h3, by rw [he]; exact h4, h5, h6, h7, h8, by rw [he]; exact h9, h10⟩
theorem vx_L.kept {C n d : String} {A : Nat → Prop} {U : State} {H H1 : Heap} (h : vx_L C n d A U H) (hq : ∀ a : Nat, a < H.size → ¬ A a → H1[a]? = H[a]?) : vx_L C n d A U H1 := by
  obtain ⟨c, k, i, f, a, cell, h1, h2, h3, h4, h5, h6, h7, h8, h9, h10⟩ := h
  exact ⟨c, k, i, f, a, cell, h1, h2, h3, h4, by rw [hq a (Array.getElem?_eq_some_iff.mp h5).1 h10]; exact h5, h6, h7, h8, h9, h10⟩
theorem vx_L.narrow {C n d : String} {A B : Nat → Prop} {U : State} {H : Heap} (h : vx_L C n d A U H) (hAB : ∀ q, B q → A q) : vx_L C n d B U H := by
  obtain ⟨c, k, i, f, a, cell, h1, h2, h3, h4, h5, h6, h7, h8, h9, h10⟩ := h
  exact ⟨c, k, i, f, a, cell, h1, h2, h3, h4, h5, h6, h7, h8, h9, fun z => h10 (hAB _ z)⟩
theorem vx_L.word {C n d : String} {A : Nat → Prop} {s : State} {args : Array Value} (h : vx_L C n d A s s.heap) : (Cond.laysStatic C n d).before args s = true := by
  obtain ⟨c, k, i, f, a, cell, h1, h2, h3, h4, h5, h6, h7, h8, h9, -⟩ := h
  show (Cond.laysStatic C n d).holds args s none s [] = true
  exact Cond.laysStatic_of h1 h2 h3 h4 h5 h6 h7 h8 h9
/-- .. and what it holds: null or some reference -/
def vx_Zq (C n d : String) (A : Nat → Prop) (U : State) (H : Heap) : Prop := va_Zq C n d A U H ∧ vx_L C n d A U H
theorem vx_Zq.moved {C n d : String} {A : Nat → Prop} {u U : State} {H : Heap} (hvm : u.vm.Alike U.vm) (h : vx_Zq C n d A u H) : vx_Zq C n d A U H := ⟨va_Zq.moved hvm h.1, vx_L.moved hvm h.2⟩
theorem vx_Zq.kept {C n d : String} {A : Nat → Prop} {U : State} {H H1 : Heap} (h : vx_Zq C n d A U H) (hq : ∀ a : Nat, a < H.size → ¬ A a → H1[a]? = H[a]?) : vx_Zq C n d A U H1 := ⟨va_Zq.kept h.1 hq, vx_L.kept h.2 hq⟩
theorem vx_Zq.narrow {C n d : String} {A B : Nat → Prop} {U : State} {H : Heap} (h : vx_Zq C n d A U H) (hAB : ∀ q, B q → A q) : vx_Zq C n d B U H := ⟨va_Zq.narrow h.1 hAB, vx_L.narrow h.2 hAB⟩
theorem vx_Zqof {args : Array Value} {s : State} {C n d : String} {A : Nat → Prop} (hl : (Cond.laysStatic C n d).before args s = true) (hini : (Cond.initialized C).before args s = true) (h : (Cond.isRef (.static C n d)).before args s = true) (hA : ∀ a : Nat, a < s.heap.size → ¬ A a) : vx_Zq C n d A s s.heap := by
  refine ⟨va_Zqof hl hini h hA, ?_⟩
  obtain ⟨c, k, i, f, a, cell, h1, h2, h3, h4, h5, h6, h7, h8, h9⟩ := Cond.laysStatic_spec hl
  exact ⟨c, k, i, f, a, cell, h1, h2, h3, h4, h5, h6, h7, h8, h9, hA a (Array.getElem?_eq_some_iff.mp h5).1⟩
theorem vx_isRef {C n d : String} {v : Value} {A : Nat → Prop} {s : State} {args : Array Value} (h : va_Z C n d v A s s.heap) (hv : v.isRef = true) : (Cond.isRef (.static C n d)).before args s = true := by
  obtain ⟨cf, kf, fi, f, a, cell, h1, h2, h3, h4, h5, h6, h7, -⟩ := h
  have he : (Term.static C n d).eval args s none [] s = some v := by
    simp [Term.eval, State.fieldNamed?, h1, h2, h4, h5, h6, h7]
  simp only [Cond.before, Cond.holds, Cond.value, he]
  cases v <;> simp_all [Value.isRef]
theorem vx_isRefq {C n d : String} {A : Nat → Prop} {s : State} {args : Array Value} (h : va_Zq C n d A s s.heap) : (Cond.isRef (.static C n d)).before args s = true := by
  rcases h with h | ⟨t, h⟩
  · exact vx_isRef h rfl
  · exact vx_isRef h rfl
/-- the same frame, seen from here: as if the method were called anew in this heap -/
theorem vx_rebase {T : State} (X : Stand p l e R s m args below meth c T locs cells slots) {R' : Room} (hf : R'.frames ≤ R.frames) (hl : R'.locals ≤ R.locals) (hc : cells + R'.cells ≤ R.cells) (hs : slots + R'.slots ≤ R.slots) :
    Stand p l e R' ((T.setVm s.vm).setFrames (.invoking m args :: below)) m args below meth c T [] 0 0 := by
  have htop : (T.setVm s.vm).topJava?.isSome := X.here.top
  have hF : ((T.setVm s.vm).setFrames (.invoking m args :: below)).frames = .invoking m args :: below := State.frames_setFrames _ (State.cur_lt_of_top htop)
  obtain ⟨g₀, hg0⟩ := Option.isSome_iff_exists.mp htop
  obtain ⟨r, hr⟩ := State.topJava?_eq_some.mp hg0
  have hl9 : e.platform.stackLimits (T.setVm s.vm).me = e.platform.stackLimits s.me := X.limits
  have hb9 : (T.setVm s.vm).me.stackBytes = s.me.stackBytes := X.bytes
  refine ⟨X.admits, X.cas, X.clock, hF, ?_, X.hears, X.method, X.code, X.here, X.tail, X.warmed, ?_, ?_, ?_⟩
  · have h := X.room
    have hU : ((T.setVm s.vm).setFrames (.invoking m args :: below)).localsInUse = s.localsInUse := by
      rw [State.localsInUse_invoking hF (meth := meth) (c := c) X.method X.code, State.localsInUse_invoking X.frames X.method X.code]
    simp only [State.hasRoom, Bool.and_eq_true, decide_eq_true_eq] at h ⊢
    obtain ⟨⟨⟨⟨h1, h2, h3, h4, h5, h6⟩, h7⟩, h8⟩, h9⟩ := h
    rw [X.frames, List.length_cons] at h2 h3
    have q1 := X.heapSize
    have q2 := X.used
    simp only [hF, hU, List.length_cons, State.stackLimits_setFrames, State.stackBytes_setFrames, hl9, hb9]
    refine ⟨⟨⟨⟨by omega, by omega, by omega, by omega, by omega, h6⟩, ?_⟩, ?_⟩, X.book⟩
    · show T.heap.size + R'.cells ≤ e.platform.maxCells
      omega
    · show T.slotsUsed + R'.slots ≤ e.platform.maxSlots
      omega
  · rw [State.stackLimits_setFrames]; rfl
  · rw [State.stackBytes_setFrames]; rfl
  · refine ⟨?_, Nat.le_refl _, Nat.le_refl _, ?_, ?_, fun a c9 h9 => ⟨c9, h9, rfl, rfl, fun _ _ => rfl⟩⟩
    · obtain ⟨t, ht, -⟩ := State.frames_cons hr
      show T.setVm s.vm = { ((T.setVm s.vm).setFrames (.invoking m args :: below)).setFrames (T.setVm s.vm).frames with heap := T.heap, slotsUsed := T.slotsUsed }
      rw [State.setFrames_setFrames, State.setFrames_self ht]
      rfl
    · show T.slotsUsed = T.slotsUsed + ((T.heap.toList.drop T.heap.size).map (·.slots.size)).sum
      rw [List.drop_eq_nil_of_le (Nat.le_of_eq Array.length_toList)]
      rfl
    · show ((T.heap.toList.drop T.heap.size).map (·.slots.size)).sum ≤ 0
      rw [List.drop_eq_nil_of_le (Nat.le_of_eq Array.length_toList)]
      exact Nat.le_refl _
/-- 'throw new E()': new; dup; invokespecial; athrow -/
theorem vx_throw0 {cc : ByteArray} {pc : Nat} (hexec : p.tables.exec = Jvm.exec) (hb : c.code = cc) (hl : l.stackTraces = false) {own cls : String} {names : List String} {ik ic mc ms : Nat} {A : Nat → Prop}
    (hown : s.vm.findClass own = some m.cls) (hcls : Bundle.fit cls = true) (hnames : ∀ n ∈ names, Bundle.fit n = true)
    (hk : (Cond.classLink own ik cls).before args s = true) (hini : (Cond.initialized cls).before args s = true) (hat : ∀ w ∈ vx_at0 own ic cls names, w.before args s = true)
    (hgood : ∀ w ∈ Cond.classLink own ik cls :: Cond.initialized cls :: vx_at0 own ic cls names, vx_ot w = true)
    (hU : vx_Zq Bundle.tN "UNASSIGNED_STACK" Bundle.steD A s s.heap) (hN : vx_Zq Bundle.tN "SUPPRESSED_SENTINEL" Bundle.listD A s s.heap) (hS : va_S A s.heap H locs) (hsize : ls.size = c.maxLocals)
    (d0 : decode cc pc = .ok (.new ik, 3)) (d3 : decode cc (pc + 3) = .ok (.dup, 1)) (d4 : decode cc (pc + 4) = .ok (.invokespecial ic, 3)) (d7 : decode cc (pc + 7) = .ok (.athrow, 1))
    (hout : ∀ x ∈ c.exceptionTable.toList, covers x (pc + 7) = false)
    (hRframes : names.length + 3 < R.frames) (hRlocals : (rest.map fun v => v.category).sum + (13 * (names.length + 1) + 42) ≤ R.locals) (hRcells : cells + 1 ≤ R.cells) (hRslots : slots + 6 ≤ R.slots) (hlocks : meth.locks = false)
    (hx : ∀ t : State, s.vm.Alike t.vm → H.size ≤ t.heap.size → (∀ q : Nat, q < H.size → t.heap[q]? = H[q]?) → XC cls s t)
    (hf : ∀ z ∈ locs, free z.base) (hc : cells + 1 ≤ mc) (hs : slots + 6 ≤ ms) :
    W p l e R s m args below meth c H locs cells slots (vx_MQ below Qc XC args s mc ms free) (F0 m pc ls rest) := by
  intro T hT X
  have htr : e.platform.stackTraces = false := (show e.platform.stackTraces = l.stackTraces by rw [X.admits.platform]).trans hl
  have Y := vx_rebase X (R' := { frames := R.frames, locals := R.locals, cells := 1, slots := 6 }) (Nat.le_refl _) (Nat.le_refl _) hRcells hRslots
  obtain ⟨s', hA⟩ : ∃ z, z = (T.setVm s.vm).setFrames (.invoking m args :: below) := ⟨_, rfl⟩
  rw [← hA] at Y
  have hvm : s'.vm = s.vm := by rw [hA]; rfl
  have hhp : s'.heap = H := by rw [hA]; exact hT
  have hW0 : s.WarmedH s'.vm := by rw [hvm]; exact State.WarmedH.refl s
  have hat' : ∀ w ∈ vx_at0 own ic cls names, w.before args s' = true := fun w hw => vx_ot_at hW0 hvm.symm (hgood w (List.mem_cons_of_mem _ (List.mem_cons_of_mem _ hw))) (hat w hw)
  have hk' : (Cond.classLink own ik cls).before args s' = true := vx_ot_at hW0 hvm.symm (hgood _ List.mem_cons_self) hk
  have hini' : (Cond.initialized cls).before args s' = true := vx_ot_at hW0 hvm.symm (hgood _ (List.mem_cons_of_mem _ List.mem_cons_self)) hini
  have hU' : vx_Zq Bundle.tN "UNASSIGNED_STACK" Bundle.steD A s' s'.heap := by rw [hhp]; exact vx_Zq.moved hW0.alike (hU.kept hS.2.1)
  have hN' : vx_Zq Bundle.tN "SUPPRESSED_SENTINEL" Bundle.listD A s' s'.heap := by rw [hhp]; exact vx_Zq.moved hW0.alike (hN.kept hS.2.1)
  have h : ∀ w ∈ Bundle.ownAtoms0 own ic cls names, w.before args s' = true := vx_own hat' (vx_isRefq hU'.1) (vx_isRefq hN'.1) hU'.2.word hN'.2.word
  have hown' : s'.vm.findClass own = some m.cls := by rw [hvm]; exact hown
  have hins : (Cond.instantiable cls 6).before args s' = true := h _ (by simp [Bundle.ownAtoms0])
  obtain ⟨vm₁, cX, kX, hfX, hkX, -, -, X₁, st1⟩ := Y.newCold hexec (own := own) (C := cls) (index := ik) (n := 6) hown' hk' hins hini'
    (g := F0 m pc ls rest) rfl (by rw [hb]; exact d0) (Nat.le_refl _) (Nat.le_refl _)
  generalize hT1 : (T.setVm vm₁).pushCell { cls := cX, slots := kX.instanceTypes.map defaultValue, vm := .none } = T1 at X₁ st1
  have hcat : (Value.ref T.heap.size).category = 1 := rfl
  have hcellA : T1.heap[T.heap.size]? = some (freshCell cX kX) := by rw [← hT1]; exact State.heap_pushCell_size _ _
  have d3' : decode c.code (pc + 3) = .ok (.dup, 1) := by rw [hb]; exact d3
  obtain ⟨U, hsteps, hrun, hend, hW, hsame, ce, hce, hO⟩ := X₁.ctorThrow0 hexec htr (own := own) (cls := cls) (names := names) (ic := ic) hown' hcls hnames h (fun x hx => nomatch hx) hfX hkX hcellA (by rw [hhp, hT]; exact Nat.le_refl _)
    (g := { method := m, pc := pc + 4, locals := ls, stack := .ref T.heap.size :: .ref T.heap.size :: rest, locked := none }) rfl hsize rfl rfl (rest := rest) rfl
    (by rw [hb]; exact d4) (by rw [hb]; exact d7) hout hRframes (by simp only [List.map_cons, List.sum_cons, hcat]; omega) hlocks
  obtain ⟨f1, f2⟩ := vx_frame hsame
  rw [hhp] at f1 f2
  have hWs : s.WarmedH U.vm := State.WarmedH.trans hW0 hW
  have hcl : s.vm.findClass cls = some ce.cls := by
    have h9 := hO.cls
    rw [hvm] at h9
    exact h9
  have hall : s.sameButNew ({ U with vm := s.vm } : State) locs mc ms := by
    subst hA
    obtain ⟨e1, e2⟩ := hsame
    rw [State.setFrames_setFrames] at e1
    have h2 : (T.setVm s.vm).sameButNew ({ U with vm := s.vm } : State) [] (0 + 1) (0 + 6) := ⟨e1, e2⟩
    have h3 := X.same.trans h2
    rw [List.append_nil] at h3
    exact h3.mono hc hs
  refine ⟨U, ?_, .threw T.heap.size, hrun, hend, Or.inr ⟨T.heap.size, rfl, cls, ce, locs, hx U hWs.alike f1 (fun q hq => f2 q hq (fun z hz => nomatch hz)), hce, hO.vm, hcl, hWs, hall, hf⟩⟩
  refine st1 _ ?_
  show Steps p.tables e below (T1.setTop { method := m, pc := pc + 3, locals := ls, stack := .ref T.heap.size :: rest, locked := none }) _
  jvm_step X₁.here [X₁.here.top, hexec, d3', Value.category]
  exact hsteps
/-- 'throw new E("text")': new; dup; ldc; invokespecial; athrow -/
theorem vx_throwS {cc : ByteArray} {pc : Nat} (hexec : p.tables.exec = Jvm.exec) (hb : c.code = cc) (hl : l.stackTraces = false) {own cls text : String} {names : List String} {ik is ic mc ms sa : Nat} {A : Nat → Prop}
    (hown : s.vm.findClass own = some m.cls) (hcls : Bundle.fit cls = true) (hnames : ∀ n ∈ names, Bundle.fit n = true)
    (hk : (Cond.classLink own ik cls).before args s = true) (hini : (Cond.initialized cls).before args s = true) (hstr : vk_R own is text sa s) (hat : ∀ w ∈ vx_atS own ic cls names, w.before args s = true)
    (hgood : ∀ w ∈ Cond.classLink own ik cls :: Cond.initialized cls :: vx_atS own ic cls names, vx_ot w = true)
    (hU : vx_Zq Bundle.tN "UNASSIGNED_STACK" Bundle.steD A s s.heap) (hN : vx_Zq Bundle.tN "SUPPRESSED_SENTINEL" Bundle.listD A s s.heap) (hS : va_S A s.heap H locs) (hsize : ls.size = c.maxLocals)
    (d0 : decode cc pc = .ok (.new ik, 3)) (d3 : decode cc (pc + 3) = .ok (.dup, 1)) (d4 : decode cc (pc + 4) = .ok (.ldc is, 2)) (d6 : decode cc (pc + 6) = .ok (.invokespecial ic, 3)) (d9 : decode cc (pc + 9) = .ok (.athrow, 1))
    (hout : ∀ x ∈ c.exceptionTable.toList, covers x (pc + 9) = false)
    (hRframes : names.length + 3 < R.frames) (hRlocals : (rest.map fun v => v.category).sum + (13 * (names.length + 1) + 43) ≤ R.locals) (hRcells : cells + 1 ≤ R.cells) (hRslots : slots + 6 ≤ R.slots) (hlocks : meth.locks = false)
    (hx : ∀ t : State, s.vm.Alike t.vm → H.size ≤ t.heap.size → (∀ q : Nat, q < H.size → t.heap[q]? = H[q]?) → XC cls s t)
    (hf : ∀ z ∈ locs, free z.base) (hc : cells + 1 ≤ mc) (hs : slots + 6 ≤ ms) :
    W p l e R s m args below meth c H locs cells slots (vx_MQ below Qc XC args s mc ms free) (F0 m pc ls rest) := by
  intro T hT X
  have htr : e.platform.stackTraces = false := (show e.platform.stackTraces = l.stackTraces by rw [X.admits.platform]).trans hl
  have Y := vx_rebase X (R' := { frames := R.frames, locals := R.locals, cells := 1, slots := 6 }) (Nat.le_refl _) (Nat.le_refl _) hRcells hRslots
  obtain ⟨s', hA⟩ : ∃ z, z = (T.setVm s.vm).setFrames (.invoking m args :: below) := ⟨_, rfl⟩
  rw [← hA] at Y
  have hvm : s'.vm = s.vm := by rw [hA]; rfl
  have hhp : s'.heap = H := by rw [hA]; exact hT
  have hW0 : s.WarmedH s'.vm := by rw [hvm]; exact State.WarmedH.refl s
  have hat' : ∀ w ∈ vx_atS own ic cls names, w.before args s' = true := fun w hw => vx_ot_at hW0 hvm.symm (hgood w (List.mem_cons_of_mem _ (List.mem_cons_of_mem _ hw))) (hat w hw)
  have hk' : (Cond.classLink own ik cls).before args s' = true := vx_ot_at hW0 hvm.symm (hgood _ List.mem_cons_self) hk
  have hini' : (Cond.initialized cls).before args s' = true := vx_ot_at hW0 hvm.symm (hgood _ (List.mem_cons_of_mem _ List.mem_cons_self)) hini
  have hU' : vx_Zq Bundle.tN "UNASSIGNED_STACK" Bundle.steD A s' s'.heap := by rw [hhp]; exact vx_Zq.moved hW0.alike (hU.kept hS.2.1)
  have hN' : vx_Zq Bundle.tN "SUPPRESSED_SENTINEL" Bundle.listD A s' s'.heap := by rw [hhp]; exact vx_Zq.moved hW0.alike (hN.kept hS.2.1)
  have h : ∀ w ∈ Bundle.ownAtoms own ic cls names, w.before args s' = true := vx_own hat' (vx_isRefq hU'.1) (vx_isRefq hN'.1) hU'.2.word hN'.2.word
  have hown' : s'.vm.findClass own = some m.cls := by rw [hvm]; exact hown
  have hins : (Cond.instantiable cls 6).before args s' = true := h _ (by simp [Bundle.ownAtoms])
  obtain ⟨vm₁, cX, kX, hfX, hkX, -, -, X₁, st1⟩ := Y.newCold hexec (own := own) (C := cls) (index := ik) (n := 6) hown' hk' hins hini'
    (g := F0 m pc ls rest) rfl (by rw [hb]; exact d0) (Nat.le_refl _) (Nat.le_refl _)
  generalize hT1 : (T.setVm vm₁).pushCell { cls := cX, slots := kX.instanceTypes.map defaultValue, vm := .none } = T1 at X₁ st1
  have hcat : (Value.ref T.heap.size).category = 1 := rfl
  have hcellA : T1.heap[T.heap.size]? = some (freshCell cX kX) := by rw [← hT1]; exact State.heap_pushCell_size _ _
  have d3' : decode c.code (pc + 3) = .ok (.dup, 1) := by rw [hb]; exact d3
  have d4' : decode c.code (pc + 4) = .ok (.ldc is, 2) := by rw [hb]; exact d4
  have hstr' : vk_R own is text sa s' := vk_R.warm hW0 hstr
  obtain ⟨U, hsteps, hrun, hend, hW, hsame, ce, hce, hO⟩ := X₁.ctorThrowS hexec htr (own := own) (cls := cls) (names := names) (ic := ic) hown' hcls hnames h (fun x hx => nomatch hx) hfX hkX hcellA (by rw [hhp, hT]; exact Nat.le_refl _) (msg := .ref sa) rfl
    (g := { method := m, pc := pc + 6, locals := ls, stack := .ref sa :: .ref T.heap.size :: .ref T.heap.size :: rest, locked := none }) rfl hsize rfl rfl (rest := rest) rfl
    (by rw [hb]; exact d6) (by rw [hb]; exact d9) hout hRframes (by simp only [List.map_cons, List.sum_cons, hcat]; omega) hlocks
  obtain ⟨f1, f2⟩ := vx_frame hsame
  rw [hhp] at f1 f2
  have hWs : s.WarmedH U.vm := State.WarmedH.trans hW0 hW
  have hcl : s.vm.findClass cls = some ce.cls := by
    have h9 := hO.cls
    rw [hvm] at h9
    exact h9
  have hall : s.sameButNew ({ U with vm := s.vm } : State) locs mc ms := by
    subst hA
    obtain ⟨e1, e2⟩ := hsame
    rw [State.setFrames_setFrames] at e1
    have h2 : (T.setVm s.vm).sameButNew ({ U with vm := s.vm } : State) [] (0 + 1) (0 + 6) := ⟨e1, e2⟩
    have h3 := X.same.trans h2
    rw [List.append_nil] at h3
    exact h3.mono hc hs
  refine ⟨U, ?_, .threw T.heap.size, hrun, hend, Or.inr ⟨T.heap.size, rfl, cls, ce, locs, hx U hWs.alike f1 (fun q hq => f2 q hq (fun z hz => nomatch hz)), hce, hO.vm, hcl, hWs, hall, hf⟩⟩
  refine st1 _ ?_
  show Steps p.tables e below (T1.setTop { method := m, pc := pc + 3, locals := ls, stack := .ref T.heap.size :: rest, locked := none }) _
  jvm_step X₁.here [X₁.here.top, hexec, d3', Value.category]
  exact X₁.ldcString hexec (own := own) (text := text) (index := is) (a := sa) hown' hstr'.1 hstr'.2
    (g := { method := m, pc := pc + 4, locals := ls, stack := .ref T.heap.size :: .ref T.heap.size :: rest, locked := none }) rfl d4' _ hsteps
/-- 'throw new E("text")', the text by a wide index -/
theorem vx_throwSW {cc : ByteArray} {pc : Nat} (hexec : p.tables.exec = Jvm.exec) (hb : c.code = cc) (hl : l.stackTraces = false) {own cls text : String} {names : List String} {ik is ic mc ms sa : Nat} {A : Nat → Prop}
    (hown : s.vm.findClass own = some m.cls) (hcls : Bundle.fit cls = true) (hnames : ∀ n ∈ names, Bundle.fit n = true)
    (hk : (Cond.classLink own ik cls).before args s = true) (hini : (Cond.initialized cls).before args s = true) (hstr : vk_R own is text sa s) (hat : ∀ w ∈ vx_atS own ic cls names, w.before args s = true)
    (hgood : ∀ w ∈ Cond.classLink own ik cls :: Cond.initialized cls :: vx_atS own ic cls names, vx_ot w = true)
    (hU : vx_Zq Bundle.tN "UNASSIGNED_STACK" Bundle.steD A s s.heap) (hN : vx_Zq Bundle.tN "SUPPRESSED_SENTINEL" Bundle.listD A s s.heap) (hS : va_S A s.heap H locs) (hsize : ls.size = c.maxLocals)
    (d0 : decode cc pc = .ok (.new ik, 3)) (d3 : decode cc (pc + 3) = .ok (.dup, 1)) (d4 : decode cc (pc + 4) = .ok (.ldc_w is, 3)) (d7 : decode cc (pc + 7) = .ok (.invokespecial ic, 3)) (d10 : decode cc (pc + 10) = .ok (.athrow, 1))
    (hout : ∀ x ∈ c.exceptionTable.toList, covers x (pc + 10) = false)
    (hRframes : names.length + 3 < R.frames) (hRlocals : (rest.map fun v => v.category).sum + (13 * (names.length + 1) + 43) ≤ R.locals) (hRcells : cells + 1 ≤ R.cells) (hRslots : slots + 6 ≤ R.slots) (hlocks : meth.locks = false)
    (hx : ∀ t : State, s.vm.Alike t.vm → H.size ≤ t.heap.size → (∀ q : Nat, q < H.size → t.heap[q]? = H[q]?) → XC cls s t)
    (hf : ∀ z ∈ locs, free z.base) (hc : cells + 1 ≤ mc) (hs : slots + 6 ≤ ms) :
    W p l e R s m args below meth c H locs cells slots (vx_MQ below Qc XC args s mc ms free) (F0 m pc ls rest) := by
  intro T hT X
  have htr : e.platform.stackTraces = false := (show e.platform.stackTraces = l.stackTraces by rw [X.admits.platform]).trans hl
  have Y := vx_rebase X (R' := { frames := R.frames, locals := R.locals, cells := 1, slots := 6 }) (Nat.le_refl _) (Nat.le_refl _) hRcells hRslots
  obtain ⟨s', hA⟩ : ∃ z, z = (T.setVm s.vm).setFrames (.invoking m args :: below) := ⟨_, rfl⟩
  rw [← hA] at Y
  have hvm : s'.vm = s.vm := by rw [hA]; rfl
  have hhp : s'.heap = H := by rw [hA]; exact hT
  have hW0 : s.WarmedH s'.vm := by rw [hvm]; exact State.WarmedH.refl s
  have hat' : ∀ w ∈ vx_atS own ic cls names, w.before args s' = true := fun w hw => vx_ot_at hW0 hvm.symm (hgood w (List.mem_cons_of_mem _ (List.mem_cons_of_mem _ hw))) (hat w hw)
  have hk' : (Cond.classLink own ik cls).before args s' = true := vx_ot_at hW0 hvm.symm (hgood _ List.mem_cons_self) hk
  have hini' : (Cond.initialized cls).before args s' = true := vx_ot_at hW0 hvm.symm (hgood _ (List.mem_cons_of_mem _ List.mem_cons_self)) hini
  have hU' : vx_Zq Bundle.tN "UNASSIGNED_STACK" Bundle.steD A s' s'.heap := by rw [hhp]; exact vx_Zq.moved hW0.alike (hU.kept hS.2.1)
  have hN' : vx_Zq Bundle.tN "SUPPRESSED_SENTINEL" Bundle.listD A s' s'.heap := by rw [hhp]; exact vx_Zq.moved hW0.alike (hN.kept hS.2.1)
  have h : ∀ w ∈ Bundle.ownAtoms own ic cls names, w.before args s' = true := vx_own hat' (vx_isRefq hU'.1) (vx_isRefq hN'.1) hU'.2.word hN'.2.word
  have hown' : s'.vm.findClass own = some m.cls := by rw [hvm]; exact hown
  have hins : (Cond.instantiable cls 6).before args s' = true := h _ (by simp [Bundle.ownAtoms])
  obtain ⟨vm₁, cX, kX, hfX, hkX, -, -, X₁, st1⟩ := Y.newCold hexec (own := own) (C := cls) (index := ik) (n := 6) hown' hk' hins hini'
    (g := F0 m pc ls rest) rfl (by rw [hb]; exact d0) (Nat.le_refl _) (Nat.le_refl _)
  generalize hT1 : (T.setVm vm₁).pushCell { cls := cX, slots := kX.instanceTypes.map defaultValue, vm := .none } = T1 at X₁ st1
  have hcat : (Value.ref T.heap.size).category = 1 := rfl
  have hcellA : T1.heap[T.heap.size]? = some (freshCell cX kX) := by rw [← hT1]; exact State.heap_pushCell_size _ _
  have d3' : decode c.code (pc + 3) = .ok (.dup, 1) := by rw [hb]; exact d3
  have d4' : decode c.code (pc + 4) = .ok (.ldc_w is, 3) := by rw [hb]; exact d4
  have hstr' : vk_R own is text sa s' := vk_R.warm hW0 hstr
  obtain ⟨U, hsteps, hrun, hend, hW, hsame, ce, hce, hO⟩ := X₁.ctorThrowS hexec htr (own := own) (cls := cls) (names := names) (ic := ic) hown' hcls hnames h (fun x hx => nomatch hx) hfX hkX hcellA (by rw [hhp, hT]; exact Nat.le_refl _) (msg := .ref sa) rfl
    (g := { method := m, pc := pc + 7, locals := ls, stack := .ref sa :: .ref T.heap.size :: .ref T.heap.size :: rest, locked := none }) rfl hsize rfl rfl (rest := rest) rfl
    (by rw [hb]; exact d7) (by rw [hb]; exact d10) hout hRframes (by simp only [List.map_cons, List.sum_cons, hcat]; omega) hlocks
  obtain ⟨f1, f2⟩ := vx_frame hsame
  rw [hhp] at f1 f2
  have hWs : s.WarmedH U.vm := State.WarmedH.trans hW0 hW
  have hcl : s.vm.findClass cls = some ce.cls := by
    have h9 := hO.cls
    rw [hvm] at h9
    exact h9
  have hall : s.sameButNew ({ U with vm := s.vm } : State) locs mc ms := by
    subst hA
    obtain ⟨e1, e2⟩ := hsame
    rw [State.setFrames_setFrames] at e1
    have h2 : (T.setVm s.vm).sameButNew ({ U with vm := s.vm } : State) [] (0 + 1) (0 + 6) := ⟨e1, e2⟩
    have h3 := X.same.trans h2
    rw [List.append_nil] at h3
    exact h3.mono hc hs
  refine ⟨U, ?_, .threw T.heap.size, hrun, hend, Or.inr ⟨T.heap.size, rfl, cls, ce, locs, hx U hWs.alike f1 (fun q hq => f2 q hq (fun z hz => nomatch hz)), hce, hO.vm, hcl, hWs, hall, hf⟩⟩
  refine st1 _ ?_
  show Steps p.tables e below (T1.setTop { method := m, pc := pc + 3, locals := ls, stack := .ref T.heap.size :: rest, locked := none }) _
  jvm_step X₁.here [X₁.here.top, hexec, d3', Value.category]
  exact X₁.ldcStringW hexec (own := own) (text := text) (index := is) (a := sa) hown' hstr'.1 hstr'.2
    (g := { method := m, pc := pc + 4, locals := ls, stack := .ref T.heap.size :: .ref T.heap.size :: rest, locked := none }) rfl d4' _ hsteps
end Ends
section Bodies
variable {l : Launch}
theorem vx_ofW {y : MethodName} {ws ws' : List Cond} {rm : Room} {Pc : Array Value → State → Prop} {Qc : Array Value → State → Outcome → State → Prop} {XC : String → State → State → Prop} {mc ms : Nat} {free : Addr → Prop} {cc : ByteArray} {maxL : Nat} {ret : Option FieldType}
    (hy : plainName y.cls = true) (hw : ws = Cond.code y cc maxL ret :: ws')
    (body : ∀ p e s m args below meth c s₁, BodyLoose p l y (headSpec ws rm) cc maxL ret e s m args below meth c s₁ → c.maxLocals = maxL → (∀ x ∈ c.exceptionTable.toList, False) → Pc args s →
      W p l e (headSpec ws rm).room s m args below meth c s.heap [] 0 0 (vx_MQ below Qc XC args s mc ms free) (entryFrame m args maxL)) : vx_Met l y ws rm Pc Qc XC mc ms free := by
  refine MetFree.of_bodyS (code := cc) (maxLocals := maxL) (ret := ret) hy ?_ ?_
  · intro args s m h hn
    obtain ⟨meth, c, h1, h2, h3, h4, h5, h6, -, -⟩ := Cond.code_spec hn (atoms_spec (ws := ws) h _ (by rw [hw]; exact List.mem_cons_self))
    exact ⟨meth, c, h1, h2, h3, h4, h5, h6⟩
  · intro p e s m args below meth c s₁ B hml hP _
    have hh0 : s₁.heap = s.heap := by rw [B.state]; rfl
    have ht : ∀ x ∈ c.exceptionTable.toList, False := by
      obtain ⟨meth9, c9, h1, h2, -, -, -, -, h7, -⟩ := Cond.code_spec B.named (atoms_spec (ws := ws) B.pre _ (by rw [hw]; exact List.mem_cons_self))
      cases Option.some.inj (h1.symm.trans B.method)
      cases Option.some.inj (h2.symm.trans (Stand.of_body B).code)
      intro x hx
      rw [Array.isEmpty_iff.mp h7] at hx
      cases hx
    obtain ⟨t, a1, o, b1, b2, b3⟩ := body p e s m args below meth c s₁ B hml ht hP s₁ hh0 (Stand.of_body B)
    exact ⟨t, o, a1, b1, b2, b3⟩
/-- the table of a body with handlers -/
theorem vx_table {p : Program} {x y : MethodName} {S : Spec} {cc bytes : ByteArray} {maxL maxL' : Nat} {ret ret' : Option FieldType} {e : Env} {s s₁ : State} {m : MethodId} {args : Array Value} {below : List Frame} {meth : Method} {c : Code} {hh : List (Nat × Nat × Nat × Nat)}
    (B : BodyLoose p l y S cc maxL ret e s m args below meth c s₁) (h : (Cond.codeWith y bytes maxL' ret' hh).before args s = true) : c.exceptionTable.toList = tableOf hh := by
  obtain ⟨m9, meth9, c9, hn9, h1, h2, -, -, h6, -⟩ := Cond.codeWith_spec h
  cases Option.some.inj (hn9.symm.trans B.named)
  cases Option.some.inj (h1.symm.trans B.method)
  cases Option.some.inj (h2.symm.trans (Stand.of_body B).code)
  rw [← h6, table_eq]
end Bodies
end VXA
/-! ===== END ===== -/
/-! ===== BEGIN a static call of a method with an exception table ===== -/
section VXS
variable {p : Program} {l : Launch} {e : Env} {R : Room} {s : State} {m : MethodId} {args : Array Value} {below : List Frame} {meth : Method} {c : Code} {T : State} {H : Heap} {locs : List Loc} {cells slots : Nat}
abbrev vx_CSW (R : Room) (s : State) (args : Array Value) (own : String) (index : Nat) (y : MethodName) (bytes : ByteArray) (maxL : Nat) (ret : Option FieldType) (hh : List (Nat × Nat × Nat × Nat)) (ws : List Cond) (rm : Room) (mc ms n : Nat) : Prop :=
  (rm.cells = mc ∧ rm.slots = ms ∧ rm.frames + 1 ≤ R.frames ∧ 8 + (maxL + 11) + rm.locals ≤ R.locals ∧ (∀ w ∈ ws, ∀ (a' : Array Value) (U : State), s.WarmedH U.vm → w.before a' U = true) ∧ Cond.codeWith y bytes maxL ret hh ∈ ws) ∧
  (Cond.codeWith y bytes maxL ret hh).before args s = true ∧ (Cond.initialized y.cls).before args s = true ∧ (y.cls ≠ "java/lang/invoke/MethodHandle" ∧ y.cls ≠ "java/lang/invoke/VarHandle") ∧
  (∀ sig, parseMethodDescriptor y.desc = some sig → n = sig.parameters.length) ∧ (Cond.methodLink own index y).before args s = true ∧ (Cond.static y).before args s = true
theorem vx_cwSW {own : String} {index maxL mc ms : Nat} {y : MethodName} {bytes : ByteArray} {ret : Option FieldType} {hh : List (Nat × Nat × Nat × Nat)} {Ts ws ws' : List Cond} {rm : Room} (n : Nat) (ht : ∀ w ∈ Ts, w.before args s = true) (hT : GoodIn Ts (va_wsS own index y ws)) (hw : ws = Cond.codeWith y bytes maxL ret hh :: ws') (hrc : rm.cells = mc) (hrs : rm.slots = ms)
    (hd : y.cls ≠ "java/lang/invoke/MethodHandle" ∧ y.cls ≠ "java/lang/invoke/VarHandle" ∧ (parseMethodDescriptor y.desc).map (fun d => d.parameters.length) = some n) (hR : rm.frames + 1 ≤ R.frames ∧ 8 + (maxL + 11) + rm.locals ≤ R.locals) :
    vx_CSW R s args own index y bytes maxL ret hh ws rm mc ms n := by
  have ok : ∀ w ∈ va_wsS own index y ws, w.before args s = true := fun w h => ht w (hT w h).1
  have hG : GoodIn Ts ws := fun w h => hT w (by unfold va_wsS; exact List.mem_append_right _ h)
  have hc : Cond.codeWith y bytes maxL ret hh ∈ ws := by rw [hw]; exact List.mem_cons_self
  refine ⟨⟨hrc, hrs, hR.1, hR.2, pay_in ht hG, hc⟩, ht _ (hG _ hc).1, ok _ (by simp [va_wsS]), ⟨hd.1, hd.2.1⟩, fun sig h => ?_, ok _ (by simp [va_wsS]), ok _ (by simp [va_wsS])⟩
  have h2 := hd.2.2
  rw [h] at h2
  exact (Option.some.inj h2).symm
theorem vx_callSW (X : Stand p l e R s m args below meth c T locs cells slots) (hexec : p.tables.exec = Jvm.exec) {own : String} {index : Nat} {y : MethodName} {bytes : ByteArray} {maxL : Nat} {ret : Option FieldType} {hh : List (Nat × Nat × Nat × Nat)}
    (hown : s.vm.findClass own = some m.cls) (hlink : (Cond.methodLink own index y).before args s = true) (hstat : (Cond.static y).before args s = true) (hinit : (Cond.initialized y.cls).before args s = true)
    (hcode : (Cond.codeWith y bytes maxL ret hh).before args s = true) (hy : y.cls ≠ "java/lang/invoke/MethodHandle" ∧ y.cls ≠ "java/lang/invoke/VarHandle")
    {W9 : Nat} {Pre : Pt → Array Value → Prop} {Post : Pt → Array Value → Option Value → Pt → Prop} (hK : Back l R p e below s args y 3 W9 Pre Post)
    {g : JFrame} (hg : g.method = m) (hsize : g.locals.size = c.maxLocals) {argsL rest : List Value} (hlen : ∀ sig, parseMethodDescriptor y.desc = some sig → argsL.length = sig.parameters.length)
    (hstack : g.stack = argsL.reverse ++ rest) (hW : 2 * g.monitorRoom + (rest.map fun v => v.category).sum ≤ W9) (hdg : decode c.code g.pc = .ok (.invokestatic index, 3))
    (hpre : ∀ vm₁, s.WarmedH vm₁ → Pre ⟨T.setVm vm₁, locs, cells, slots⟩ argsL.toArray) :
    ∃ (v : Option Value) (vm₁ : Vm) (B : Pt), s.WarmedH vm₁ ∧ Stand p l e R s m args below meth c B.U B.locs B.cells B.slots ∧ Post ⟨T.setVm vm₁, locs, cells, slots⟩ argsL.toArray v B ∧
      ∀ target, Steps p.tables e below (B.U.setTop { g with pc := g.pc + 3, stack := v.toList ++ rest }) target → Steps p.tables e below (T.setTop g) target := by
  obtain ⟨mk, methM, cM, hnamed, hmethM, -, -, -, -, -, -, hsigM⟩ := Cond.codeWith_spec hcode
  have hstatic : methM.isStatic = true := Cond.static_spec hnamed hmethM hstat
  obtain ⟨kP, hkP, -⟩ := className_of_methodNamed hnamed
  have hinitP : kP.init = .initialized := Cond.initialized_spec (findClass_of_methodNamed hnamed) hkP hinit
  obtain ⟨vm₁, X₁, hstep₁⟩ := X.invokestatic hexec hown hlink hnamed hmethM hstatic hkP hinitP hy (g := g) hg (argsL := argsL) (rest := rest) (hlen _ hsigM) hstack hdg
  obtain ⟨v, B, X', hpost, hsteps⟩ := hK m meth c ⟨T.setVm vm₁, locs, cells, slots⟩ { g with stack := rest } (.invokestatic index) mk argsL.toArray X₁ hg hsize hdg hW (X₁.named hnamed) (hpre vm₁ X₁.warmed)
  exact ⟨v, vm₁, B, X₁.warmed, X', hpost, fun target h => hstep₁ _ fun acts => by rw [doInvoke_state]; exact hsteps.trans h⟩
theorem vx_runSW {y : MethodName} {bytes cc : ByteArray} {maxL nL mc ms n index : Nat} {ret : Option FieldType} {hh : List (Nat × Nat × Nat × Nat)} {ws : List Cond} {rm : Room} {Pc : Array Value → State → Prop} {Qc : Array Value → State → Outcome → State → Prop} {free : Addr → Prop} {Ts : List Cond} {own : String} {As rest : List Value} {g : JFrame}
    (S : CallFix p m c cc nL s args Ts own) (hM : Met l y ws rm Pc Qc mc ms free) (cw : vx_CSW R s args own index y bytes maxL ret hh ws rm mc ms n) (hp : PreS s H Pc As)
    (hg : g.method = m) (hn : As.length = n) (hsize : g.locals.size = nL) (hstack : g.stack = As.reverse ++ rest) (hW : 2 * g.monitorRoom + (rest.map fun v => v.category).sum ≤ 8) (hdg : decode cc g.pc = .ok (.invokestatic index, 3)) (hf : cells + mc ≤ R.cells ∧ slots + ms ≤ R.slots) :
    va_Run p l e R s m args below meth c H locs cells slots mc ms g rest (Qc As.toArray) (free) := by
  obtain ⟨⟨hrc, hrs, hfr, hlo, hws, hcw⟩, hcode, hini, hy, hlen, hl, hstt⟩ := cw
  have hK : Back l R p e below s args y 3 8 (PreOf R mc ms Pc) (PostOf Qc mc ms free) := va_backW (hh := hh) (bytes := bytes) (maxL := maxL) (ret := ret) hM hp.1 hrc hrs hfr hlo hws hcw (fun a' U hW => word_at hW (Or.inl (by first | rfl | simp [Cond.onTables, Cond.keeps, Cond.steady])) hini)
  obtain ⟨hx, hb, hml, ho, -⟩ := S
  intro T hT X
  obtain ⟨v, vm₁, ⟨U', l2, c2, s2⟩, hW₁, X', ⟨g', mk, t, L, e1, e2, hq, h1, hL, h2, h3⟩, st⟩ := vx_callSW X hx (hh := hh) (bytes := bytes) (maxL := maxL) (ret := ret) ho hl hstt hini hcode hy hK hg (hsize.trans hml.symm) (argsL := As) (rest := rest) (fun sig h => hn.trans (hlen sig h)) hstack hW (by rw [hb]; exact hdg)
    (fun vm₁ hW₁ => ⟨hf.1, hf.2, hp.2 (T.setVm vm₁) hT hW₁⟩)
  dsimp only [Pt.U, Pt.locs, Pt.cells, Pt.slots] at X' e1 e2 h1 h2 h3 st
  subst h1; subst h2; subst h3
  exact ⟨v, (T.setVm vm₁).calling g' mk As.toArray, t, U', L, hT, X', hL, e1, e2, hq, st⟩
/-- not caught here, past rows that name other classes: it goes on to the caller -/
theorem vx_outP {p : Program} {l : Launch} {e : Env} {R : Room} {s : State} {m : MethodId} {args : Array Value} {below : List Frame} {meth : Method} {c : Code} {H : Heap} {locs : List Loc} {cells slots : Nat} {free : Addr → Prop} {ls : Array Slot} {rest : List Value} {Qc : Array Value → State → Outcome → State → Prop} {XC : String → State → State → Prop}
    {pc : Nat} {own E : String} {ce : Cell} {q : Addr} {mc ms : Nat} (hown : s.vm.findClass own = some m.cls) (hlocks : meth.locks = false)
    (hpass : ∀ z ∈ c.exceptionTable.toList, covers z pc = false ∨ (z.catchType ≠ 0 ∧ ∃ nm : String, (Cond.classLink own z.catchType nm).before args s = true ∧ va_Nc E nm s)) (hcell : H[q]? = some ce) (hv : ce.vm = .none) (hcl : s.vm.findClass E = some ce.cls)
    (hx : ∀ t : State, t.heap = H → s.vm.Alike t.vm → XC E s t) (hf : ∀ z ∈ locs, free z.base) (hc : cells ≤ mc) (hs : slots ≤ ms) :
    vx_W p l e R s m args below meth c H locs cells slots (vx_MQ below Qc XC args s mc ms free) (F0 m pc ls rest) q := by
  intro T hT X
  have hpl : e.platform.magicAccessors = ({} : Platform).magicAccessors := by rw [X.admits.platform]
  obtain ⟨vm', hW', X', st⟩ := X.outThrough hlocks q (g := F0 m pc ls rest) rfl rfl rfl (cell := ce) (by rw [hT]; exact hcell) (by rw [hv]; rfl)
    (by obtain ⟨k9, h9, -⟩ := Vm.findClass_spec hcl; exact ⟨k9, h9⟩) (fun z hz => by
      rcases hpass z hz with h | ⟨hz0, nm, hl1, hn1⟩
      · exact Or.inl h
      · obtain ⟨c6, hc6, hcl6⟩ := Cond.classLink_spec hown hl1 e.platform hpl
        obtain ⟨a8, b8, h1, h2, h3⟩ := hn1
        cases Option.some.inj (h1.symm.trans hcl)
        cases Option.some.inj (h2.symm.trans hc6)
        exact Or.inr ⟨hz0, _, hcl6, h3⟩)
  obtain ⟨g₀, hfr⟩ := X'.frames_eq
  have hcell9 : ((T.setVm vm').setFrames (.throwing q :: below)).heap[q]? = some ce := by
    show T.heap[q]? = some ce
    rw [hT]; exact hcell
  have hend : Ended ((T.setVm vm').setFrames (.throwing q :: below)) below (.threw q) := State.frames_setFrames _ (State.cur_lt_of_frames hfr)
  refine ⟨(T.setVm vm').setFrames (.throwing q :: below), ?_, .threw q, X'.here.running, hend, Or.inr ⟨q, rfl, E, ce, locs, hx _ hT (X'.ends _).1.alike, hcell9, hv, hcl, (X'.ends _).1, (X'.ends _).2.mono hc hs, hf⟩⟩
  rw [X.pushThrowing_eq]
  exact st
/-- a thing of a world lies in the heap -/
theorem vx_lt {D : va_G} {cl : List vw_C} {ws : va_W} {H1 : Heap} (h : va_P D cl ws H1) {k : Nat} {q : Nat × va_E} (hk : ws[k]? = some q) : q.1 < H1.size := (h k q hk).lt
end VXS
/-! ===== END ===== -/
/-! ===== BEGIN methods with a table of their own: called by a name, returning or throwing ===== -/
section VXH
/-! vx_backW, vx_callVX, vx_callSX, vx_callVW, vx_runVW, vx_runVX, vx_runSX, vx_ofWH follow the same proofs as their sisters above (Free/Laws.lean, Shelf42/LK1.lean); vx_outP calls Shelf42/NT130.lean (outThrough). -/
section
variable {l : Launch} {R : Room} {p : Program} {e : Env} {below : List Frame} {s : State} {sargs : Array Value} {y : MethodName} {len W9 : Nat}
theorem vx_backW {ws : List Cond} {rm : Room} {Pc : Array Value → State → Prop} {Qc : Array Value → State → Outcome → State → Prop} {XC : String → State → State → Prop} {mc ms : Nat} {free : Addr → Prop} {bytes : ByteArray} {maxL : Nat} {ret : Option FieldType} {hh : List (Nat × Nat × Nat × Nat)}
    (hM : vx_Met l y ws rm Pc Qc XC mc ms free) (hblind : FrameBlind Pc) (hrc : rm.cells = mc) (hrs : rm.slots = ms)
    (hframes : rm.frames + 1 ≤ R.frames) (hlocals : W9 + (maxL + 11) + rm.locals ≤ R.locals)
    (hws : ∀ w ∈ ws, ∀ a' U, s.WarmedH U.vm → w.before a' U = true) (hcode : Cond.codeWith y bytes maxL ret hh ∈ ws) (hinit : ∀ a' U, s.WarmedH U.vm → (Cond.initialized y.cls).before a' U = true) :
    vx_Back l R p e below s sargs y len W9 (PreOf R mc ms Pc) (PostOf Qc mc ms free) (vx_Post XC mc ms free) := by
  intro m meth c A g ig mk a X hg hsize hdg hW hn hp
  have h1 : (headSpec ws rm).pre.before a A.U = true := atoms_intro fun w hw => hws w hw _ _ X.warmed
  have h2 : (Cond.codeWith y bytes maxL ret hh).before a A.U = true := hws _ hcode _ _ X.warmed
  have h3 : (Cond.initialized y.cls).before a A.U = true := hinit _ _ X.warmed
  have h4 : A.cells + (headSpec ws rm).room.cells ≤ R.cells := by rw [show (headSpec ws rm).room.cells = mc from hrc]; exact hp.1
  have h5 : A.slots + (headSpec ws rm).room.slots ≤ R.slots := by rw [show (headSpec ws rm).room.slots = ms from hrs]; exact hp.2.1
  have hPc : Pc a (A.U.calling g mk a) := hblind _ _ _ _ hp.2.2
  obtain ⟨U, Ls, c0, s0⟩ := A
  dsimp only [Pt.U, Pt.locs, Pt.cells, Pt.slots] at h1 h2 h3 h4 h5 X hn hPc ⊢
  obtain ⟨m9, methY, cY, hn9, hmY, hcY, -, hlY, -⟩ := Cond.codeWith_spec h2
  cases Option.some.inj (hn9.symm.trans hn)
  obtain ⟨kY, hkY, -⟩ := className_of_methodNamed hn
  have hinitY : kY.init = .initialized := Cond.initialized_spec (findClass_of_methodNamed hn) hkY h3
  have h : At U g.method c below := by rw [hg]; exact X.here
  have hlocals9 : W9 + (maxL + 11) + (headSpec ws rm).room.locals ≤ R.locals := hlocals
  have happ : (headSpec ws rm).appliesLoose y e.platform (U.calling g mk a) = true :=
    Spec.appliesLoose_calling (g := g) h hdg hn hkY hinitY
      (X.room_calling (g := g) (R' := (headSpec ws rm).room) hsize hmY hcY hframes (by rw [hlY]; omega) h4 h5) h1
  obtain ⟨mid, hmid⟩ := h.above
  have hfr : (U.setTop g).frames = (.java g :: mid) ++ below := by rw [State.frames_setTop' g h.top, hmid]; rfl
  obtain ⟨o, s₂, hsteps, -, hend, hq⟩ := Steps.callFree hM p X.admits X.cas X.clock (acts := []) hfr happ hPc trivial
  have hq' : vx_Q Qc XC mc ms free a (U.calling g mk a) o s₂ := hq
  rw [State.frames_setTop' g h.top] at hend
  obtain ⟨g₀, hg0⟩ := Option.isSome_iff_exists.mp h.top
  obtain ⟨r, hr⟩ := State.topJava?_eq_some.mp hg0
  have hr' : (({ U with heap := s₂.heap, slotsUsed := s₂.slotsUsed } : State).setVm s₂.vm).frames = .java g₀ :: r := hr
  rcases hq' with ⟨hqc, L, hfe, hL⟩ | ⟨q, rfl, E, ce, L, hx, hce, hcv, hcl, hW₂, hsm, hL⟩
  · obtain ⟨⟨v, rfl⟩, hW₂, e2, q2, q3, q4, q5, q6⟩ := id hfe
    have e3 : s₂ = ({ (U.calling g mk a).setFrames s₂.frames with heap := s₂.heap, slotsUsed := s₂.slotsUsed } : State).setVm s₂.vm := by
      have : s₂ = ({ s₂ with vm := (U.calling g mk a).vm } : State).setVm s₂.vm := rfl
      rw [e2] at this
      exact this
    obtain ⟨c₂, i₂, len₂, hc₂, hd₂, hf₂⟩ := hend
    have hW' : U.WarmedH s₂.vm := hW₂
    have hcc : c₂ = c := by
      have h1 : s₂.code? g.method = U.code? g.method := by
        rw [State.code?_eq, State.code?_eq, hW'.alike.method?]
      exact Option.some.inj (hc₂.symm.trans (h1.trans h.code))
    subst hcc
    have hlen : len₂ = len := by rw [hdg] at hd₂; cases hd₂; rfl
    subst hlen
    have hs₂ : s₂ = (({ U with heap := s₂.heap, slotsUsed := s₂.slotsUsed } : State).setVm s₂.vm).setTop { g with pc := g.pc + len₂, stack := v.toList ++ g.stack } := by
      refine e3.trans ?_
      rw [hf₂, State.calling_eq h.top, State.setFrames_setFrames, State.setTop_of_frames _ hr', hr]
      rfl
    have hsame : U.sameButNew ({ U with heap := s₂.heap, slotsUsed := s₂.slotsUsed } : State) L mc ms := by
      refine ⟨?_, q2, q3, q4, q5, q6⟩
      obtain ⟨t, ht, -⟩ := State.frames_cons hr
      show ({ U with heap := s₂.heap, slotsUsed := s₂.slotsUsed } : State) = { U.setFrames U.frames with heap := s₂.heap, slotsUsed := s₂.slotsUsed }
      rw [State.setFrames_self ht]
    subst hg
    refine Or.inl ⟨v, ⟨(({ U with heap := s₂.heap, slotsUsed := s₂.slotsUsed } : State).setVm s₂.vm), Ls ++ L, c0 + mc, s0 + ms⟩,
      ⟨X.admits, X.cas, X.clock, X.frames, X.room, X.hears, X.method, X.code, (X.here.setHeapUsed s₂.heap s₂.slotsUsed).setVm hW'.alike, X.tail, State.WarmedH.trans X.warmed hW', X.limits, X.bytes, X.same.trans (hsame.setVm s.vm)⟩,
      ⟨g, mk, s₂, L, rfl, rfl, hqc, rfl, hL, rfl, rfl⟩, ?_⟩
    show Steps p.tables e below _ ((({ U with heap := s₂.heap, slotsUsed := s₂.slotsUsed } : State).setVm s₂.vm).setTop { g with pc := g.pc + len₂, stack := v.toList ++ g.stack })
    rw [← hs₂]
    exact hsteps
  · obtain ⟨e2, q2, q3, q4, q5, q6⟩ := id hsm
    have e3 : s₂ = ({ (U.calling g mk a).setFrames s₂.frames with heap := s₂.heap, slotsUsed := s₂.slotsUsed } : State).setVm s₂.vm := by
      have : s₂ = ({ s₂ with vm := (U.calling g mk a).vm } : State).setVm s₂.vm := rfl
      rw [e2] at this
      exact this
    have hf₂ : s₂.frames = .throwing q :: .java g :: U.frames.tail := hend
    have hW' : U.WarmedH s₂.vm := hW₂
    have hs₂ : s₂ = ((({ U with heap := s₂.heap, slotsUsed := s₂.slotsUsed } : State).setVm s₂.vm).setTop g).pushFrame (.throwing q) := by
      refine e3.trans ?_
      rw [hf₂, State.calling_eq h.top, State.setFrames_setFrames, State.pushFrame, State.frames_setTop _ hr', State.setTop_of_frames _ hr', State.setFrames_setFrames, hr]
      rfl
    have hsame : U.sameButNew ({ U with heap := s₂.heap, slotsUsed := s₂.slotsUsed } : State) L mc ms := by
      refine ⟨?_, q2, q3, q4, q5, q6⟩
      obtain ⟨t, ht, -⟩ := State.frames_cons hr
      show ({ U with heap := s₂.heap, slotsUsed := s₂.slotsUsed } : State) = { U.setFrames U.frames with heap := s₂.heap, slotsUsed := s₂.slotsUsed }
      rw [State.setFrames_self ht]
    subst hg
    refine Or.inr ⟨q, ⟨(({ U with heap := s₂.heap, slotsUsed := s₂.slotsUsed } : State).setVm s₂.vm), Ls ++ L, c0 + mc, s0 + ms⟩,
      ⟨X.admits, X.cas, X.clock, X.frames, X.room, X.hears, X.method, X.code, (X.here.setHeapUsed s₂.heap s₂.slotsUsed).setVm hW'.alike, X.tail, State.WarmedH.trans X.warmed hW', X.limits, X.bytes, X.same.trans (hsame.setVm s.vm)⟩,
      ⟨g, mk, s₂, L, E, ce, rfl, rfl, hx, hce, hcv, hcl, rfl, hL, rfl, rfl⟩, ?_⟩
    show Steps p.tables e below _ (((({ U with heap := s₂.heap, slotsUsed := s₂.slotsUsed } : State).setVm s₂.vm).setTop g).pushFrame (.throwing q))
    rw [← hs₂]
    exact hsteps
end
variable {p : Program} {l : Launch} {e : Env} {R : Room} {s : State} {m : MethodId} {args : Array Value} {below : List Frame} {meth : Method} {c : Code} {T : State} {H : Heap} {locs : List Loc} {cells slots : Nat}
theorem vx_callVX (X : Stand p l e R s m args below meth c T locs cells slots) (hexec : p.tables.exec = Jvm.exec) {own C : String} {index : Nat} {y : MethodName} {bytes : ByteArray} {maxL : Nat} {ret : Option FieldType} {hh : List (Nat × Nat × Nat × Nat)}
    (hown : s.vm.findClass own = some m.cls) (hlink : (Cond.methodLink own index y).before args s = true) (hinst : (Cond.instanceMethod y).before args s = true) (hsel : (Cond.selects C y y).before args s = true)
    (hcode : (Cond.codeWith y bytes maxL ret hh).before args s = true) (hy : y.cls ≠ "java/lang/invoke/MethodHandle" ∧ y.cls ≠ "java/lang/invoke/VarHandle")
    {W9 : Nat} {Pre : Pt → Array Value → Prop} {Post : Pt → Array Value → Option Value → Pt → Prop} {PostX : Pt → Array Value → Addr → Pt → Prop} (hK : vx_Back l R p e below s args y 3 W9 Pre Post PostX)
    {b : Addr} {cellB : Cell} (hcell : T.heap[b]? = some cellB) (hobj : cellB.vm.isStatics = false) (hcls : s.vm.findClass C = some cellB.cls)
    {g : JFrame} (hg : g.method = m) (hsize : g.locals.size = c.maxLocals) {argsL rest : List Value} (hlen : ∀ sig, parseMethodDescriptor y.desc = some sig → argsL.length = sig.parameters.length)
    (hstack : g.stack = argsL.reverse ++ .ref b :: rest) (hW : 2 * g.monitorRoom + (rest.map fun v => v.category).sum ≤ W9) (hdg : decode c.code g.pc = .ok (.invokevirtual index, 3))
    (hpre : ∀ vm₁, s.WarmedH vm₁ → Pre ⟨T.setVm vm₁, locs, cells, slots⟩ (Value.ref b :: argsL).toArray) :
    (∃ (v : Option Value) (vm₁ : Vm) (B : Pt), s.WarmedH vm₁ ∧ Stand p l e R s m args below meth c B.U B.locs B.cells B.slots ∧ Post ⟨T.setVm vm₁, locs, cells, slots⟩ (Value.ref b :: argsL).toArray v B ∧
      ∀ target, Steps p.tables e below (B.U.setTop { g with pc := g.pc + 3, stack := v.toList ++ rest }) target → Steps p.tables e below (T.setTop g) target) ∨
    (∃ (q : Addr) (vm₁ : Vm) (B : Pt), s.WarmedH vm₁ ∧ Stand p l e R s m args below meth c B.U B.locs B.cells B.slots ∧ PostX ⟨T.setVm vm₁, locs, cells, slots⟩ (Value.ref b :: argsL).toArray q B ∧
      Steps p.tables e below (T.setTop g) ((B.U.setTop { g with stack := rest }).pushFrame (.throwing q))) := by
  obtain ⟨mk, methM, hnamed, hmethM, hstM, habM⟩ := Cond.instanceMethod_spec hinst
  obtain ⟨m8, methM', cM, hn8, hmethM', -, -, -, -, -, -, hsigM⟩ := Cond.codeWith_spec hcode
  cases Option.some.inj (hn8.symm.trans hnamed)
  cases hmethM.symm.trans hmethM'
  obtain ⟨c2, r2, m2, q1, q2, q3, q4, kP, hkP, hkPi⟩ := Cond.selects_spec hsel
  cases hcls.symm.trans q1
  cases (State.methodFound?_of_named hnamed hy).symm.trans q2
  cases hnamed.symm.trans q3
  have hselP : selectMethod e.platform s.vm cellB.cls mk = .method mk := by rw [Launch.admits_selectMethod X.admits]; exact q4
  obtain ⟨vm₁, X₁, hstep₁⟩ := X.invokevirtual hexec hown hlink hnamed hmethM hstM hkP hkPi hy (a := b) (cell := cellB) hcell
    (fun z h => by rw [h] at hobj; cases hobj) hselP hmethM habM hkP hkPi (g := g) hg (argsL := argsL) (rest := rest) (hlen _ hsigM) hstack hdg
  rcases hK m meth c ⟨T.setVm vm₁, locs, cells, slots⟩ { g with stack := rest } (.invokevirtual index) mk (Value.ref b :: argsL).toArray X₁ hg hsize hdg hW (X₁.named hnamed) (hpre vm₁ X₁.warmed) with ⟨v, B, X', hpost, hsteps⟩ | ⟨q, B, X', hpost, hsteps⟩
  · exact Or.inl ⟨v, vm₁, B, X₁.warmed, X', hpost, fun target h => hstep₁ _ fun acts => by rw [doInvoke_state]; exact hsteps.trans h⟩
  · exact Or.inr ⟨q, vm₁, B, X₁.warmed, X', hpost, hstep₁ _ fun acts => by rw [doInvoke_state]; exact hsteps⟩
theorem vx_callSX (X : Stand p l e R s m args below meth c T locs cells slots) (hexec : p.tables.exec = Jvm.exec) {own : String} {index : Nat} {y : MethodName} {bytes : ByteArray} {maxL : Nat} {ret : Option FieldType} {hh : List (Nat × Nat × Nat × Nat)}
    (hown : s.vm.findClass own = some m.cls) (hlink : (Cond.methodLink own index y).before args s = true) (hstat : (Cond.static y).before args s = true) (hinit : (Cond.initialized y.cls).before args s = true)
    (hcode : (Cond.codeWith y bytes maxL ret hh).before args s = true) (hy : y.cls ≠ "java/lang/invoke/MethodHandle" ∧ y.cls ≠ "java/lang/invoke/VarHandle")
    {W9 : Nat} {Pre : Pt → Array Value → Prop} {Post : Pt → Array Value → Option Value → Pt → Prop} {PostX : Pt → Array Value → Addr → Pt → Prop} (hK : vx_Back l R p e below s args y 3 W9 Pre Post PostX)
    {g : JFrame} (hg : g.method = m) (hsize : g.locals.size = c.maxLocals) {argsL rest : List Value} (hlen : ∀ sig, parseMethodDescriptor y.desc = some sig → argsL.length = sig.parameters.length)
    (hstack : g.stack = argsL.reverse ++ rest) (hW : 2 * g.monitorRoom + (rest.map fun v => v.category).sum ≤ W9) (hdg : decode c.code g.pc = .ok (.invokestatic index, 3))
    (hpre : ∀ vm₁, s.WarmedH vm₁ → Pre ⟨T.setVm vm₁, locs, cells, slots⟩ argsL.toArray) :
    (∃ (v : Option Value) (vm₁ : Vm) (B : Pt), s.WarmedH vm₁ ∧ Stand p l e R s m args below meth c B.U B.locs B.cells B.slots ∧ Post ⟨T.setVm vm₁, locs, cells, slots⟩ argsL.toArray v B ∧
      ∀ target, Steps p.tables e below (B.U.setTop { g with pc := g.pc + 3, stack := v.toList ++ rest }) target → Steps p.tables e below (T.setTop g) target) ∨
    (∃ (q : Addr) (vm₁ : Vm) (B : Pt), s.WarmedH vm₁ ∧ Stand p l e R s m args below meth c B.U B.locs B.cells B.slots ∧ PostX ⟨T.setVm vm₁, locs, cells, slots⟩ argsL.toArray q B ∧
      Steps p.tables e below (T.setTop g) ((B.U.setTop { g with stack := rest }).pushFrame (.throwing q))) := by
  obtain ⟨mk, methM, cM, hnamed, hmethM, -, -, -, -, -, -, hsigM⟩ := Cond.codeWith_spec hcode
  have hstatic : methM.isStatic = true := Cond.static_spec hnamed hmethM hstat
  obtain ⟨kP, hkP, -⟩ := className_of_methodNamed hnamed
  have hinitP : kP.init = .initialized := Cond.initialized_spec (findClass_of_methodNamed hnamed) hkP hinit
  obtain ⟨vm₁, X₁, hstep₁⟩ := X.invokestatic hexec hown hlink hnamed hmethM hstatic hkP hinitP hy (g := g) hg (argsL := argsL) (rest := rest) (hlen _ hsigM) hstack hdg
  rcases hK m meth c ⟨T.setVm vm₁, locs, cells, slots⟩ { g with stack := rest } (.invokestatic index) mk argsL.toArray X₁ hg hsize hdg hW (X₁.named hnamed) (hpre vm₁ X₁.warmed) with ⟨v, B, X', hpost, hsteps⟩ | ⟨q, B, X', hpost, hsteps⟩
  · exact Or.inl ⟨v, vm₁, B, X₁.warmed, X', hpost, fun target h => hstep₁ _ fun acts => by rw [doInvoke_state]; exact hsteps.trans h⟩
  · exact Or.inr ⟨q, vm₁, B, X₁.warmed, X', hpost, hstep₁ _ fun acts => by rw [doInvoke_state]; exact hsteps⟩
theorem vx_callVW (X : Stand p l e R s m args below meth c T locs cells slots) (hexec : p.tables.exec = Jvm.exec) {own C : String} {index : Nat} {y : MethodName} {bytes : ByteArray} {maxL : Nat} {ret : Option FieldType} {hh : List (Nat × Nat × Nat × Nat)}
    (hown : s.vm.findClass own = some m.cls) (hlink : (Cond.methodLink own index y).before args s = true) (hinst : (Cond.instanceMethod y).before args s = true) (hsel : (Cond.selects C y y).before args s = true)
    (hcode : (Cond.codeWith y bytes maxL ret hh).before args s = true) (hy : y.cls ≠ "java/lang/invoke/MethodHandle" ∧ y.cls ≠ "java/lang/invoke/VarHandle")
    {W9 : Nat} {Pre : Pt → Array Value → Prop} {Post : Pt → Array Value → Option Value → Pt → Prop} (hK : Back l R p e below s args y 3 W9 Pre Post)
    {b : Addr} {cellB : Cell} (hcell : T.heap[b]? = some cellB) (hobj : cellB.vm.isStatics = false) (hcls : s.vm.findClass C = some cellB.cls)
    {g : JFrame} (hg : g.method = m) (hsize : g.locals.size = c.maxLocals) {argsL rest : List Value} (hlen : ∀ sig, parseMethodDescriptor y.desc = some sig → argsL.length = sig.parameters.length)
    (hstack : g.stack = argsL.reverse ++ .ref b :: rest) (hW : 2 * g.monitorRoom + (rest.map fun v => v.category).sum ≤ W9) (hdg : decode c.code g.pc = .ok (.invokevirtual index, 3))
    (hpre : ∀ vm₁, s.WarmedH vm₁ → Pre ⟨T.setVm vm₁, locs, cells, slots⟩ (Value.ref b :: argsL).toArray) :
    ∃ (v : Option Value) (vm₁ : Vm) (B : Pt), s.WarmedH vm₁ ∧ Stand p l e R s m args below meth c B.U B.locs B.cells B.slots ∧ Post ⟨T.setVm vm₁, locs, cells, slots⟩ (Value.ref b :: argsL).toArray v B ∧
      ∀ target, Steps p.tables e below (B.U.setTop { g with pc := g.pc + 3, stack := v.toList ++ rest }) target → Steps p.tables e below (T.setTop g) target := by
  obtain ⟨mk, methM, hnamed, hmethM, hstM, habM⟩ := Cond.instanceMethod_spec hinst
  obtain ⟨m8, methM', cM, hn8, hmethM', -, -, -, -, -, -, hsigM⟩ := Cond.codeWith_spec hcode
  cases Option.some.inj (hn8.symm.trans hnamed)
  cases hmethM.symm.trans hmethM'
  obtain ⟨c2, r2, m2, q1, q2, q3, q4, kP, hkP, hkPi⟩ := Cond.selects_spec hsel
  cases hcls.symm.trans q1
  cases (State.methodFound?_of_named hnamed hy).symm.trans q2
  cases hnamed.symm.trans q3
  have hselP : selectMethod e.platform s.vm cellB.cls mk = .method mk := by rw [Launch.admits_selectMethod X.admits]; exact q4
  obtain ⟨vm₁, X₁, hstep₁⟩ := X.invokevirtual hexec hown hlink hnamed hmethM hstM hkP hkPi hy (a := b) (cell := cellB) hcell
    (fun z h => by rw [h] at hobj; cases hobj) hselP hmethM habM hkP hkPi (g := g) hg (argsL := argsL) (rest := rest) (hlen _ hsigM) hstack hdg
  obtain ⟨v, B, X', hpost, hsteps⟩ := hK m meth c ⟨T.setVm vm₁, locs, cells, slots⟩ { g with stack := rest } (.invokevirtual index) mk (Value.ref b :: argsL).toArray X₁ hg hsize hdg hW (X₁.named hnamed) (hpre vm₁ X₁.warmed)
  exact ⟨v, vm₁, B, X₁.warmed, X', hpost, fun target h => hstep₁ _ fun acts => by rw [doInvoke_state]; exact hsteps.trans h⟩
abbrev vx_CVW (R : Room) (s : State) (args : Array Value) (own C : String) (index : Nat) (y : MethodName) (bytes : ByteArray) (maxL : Nat) (ret : Option FieldType) (hh : List (Nat × Nat × Nat × Nat)) (ws : List Cond) (rm : Room) (mc ms n : Nat) : Prop :=
  (rm.cells = mc ∧ rm.slots = ms ∧ rm.frames + 1 ≤ R.frames ∧ 8 + (maxL + 11) + rm.locals ≤ R.locals ∧ (∀ w ∈ ws, ∀ (a' : Array Value) (U : State), s.WarmedH U.vm → w.before a' U = true) ∧ Cond.codeWith y bytes maxL ret hh ∈ ws) ∧
  (Cond.codeWith y bytes maxL ret hh).before args s = true ∧ (Cond.initialized y.cls).before args s = true ∧ (y.cls ≠ "java/lang/invoke/MethodHandle" ∧ y.cls ≠ "java/lang/invoke/VarHandle") ∧
  (∀ sig, parseMethodDescriptor y.desc = some sig → n = sig.parameters.length) ∧ (Cond.methodLink own index y).before args s = true ∧ (Cond.instanceMethod y).before args s = true ∧ (Cond.selects C y y).before args s = true
theorem vx_cwVW {own C : String} {index maxL mc ms : Nat} {y : MethodName} {bytes : ByteArray} {ret : Option FieldType} {hh : List (Nat × Nat × Nat × Nat)} {Ts ws ws' : List Cond} {rm : Room} (n : Nat) (ht : ∀ w ∈ Ts, w.before args s = true) (hT : GoodIn Ts (wsV own index C y ws)) (hw : ws = Cond.codeWith y bytes maxL ret hh :: ws') (hrc : rm.cells = mc) (hrs : rm.slots = ms)
    (hd : y.cls = C ∧ y.cls ≠ "java/lang/invoke/MethodHandle" ∧ y.cls ≠ "java/lang/invoke/VarHandle" ∧ (parseMethodDescriptor y.desc).map (fun d => d.parameters.length) = some n) (hR : rm.frames + 1 ≤ R.frames ∧ 8 + (maxL + 11) + rm.locals ≤ R.locals) :
    vx_CVW R s args own C index y bytes maxL ret hh ws rm mc ms n := by
  obtain ⟨hC, hd⟩ := hd
  subst hC
  have ok : ∀ w ∈ wsV own index y.cls y ws, w.before args s = true := fun w h => ht w (hT w h).1
  have hG : GoodIn Ts ws := fun w h => hT w (by unfold wsV; exact List.mem_append_right _ h)
  have hc : Cond.codeWith y bytes maxL ret hh ∈ ws := by rw [hw]; exact List.mem_cons_self
  refine ⟨⟨hrc, hrs, hR.1, hR.2, pay_in ht hG, hc⟩, ht _ (hG _ hc).1, ok _ (by simp [wsV]), ⟨hd.1, hd.2.1⟩, fun sig h => ?_, ok _ (by simp [wsV]), ok _ (by simp [wsV]), ok _ (by simp [wsV])⟩
  have h2 := hd.2.2
  rw [h] at h2
  exact (Option.some.inj h2).symm
theorem vx_runVW {y : MethodName} {bytes cc : ByteArray} {maxL nL mc ms n index : Nat} {ret : Option FieldType} {hh : List (Nat × Nat × Nat × Nat)} {ws : List Cond} {rm : Room} {Pc : Array Value → State → Prop} {Qc : Array Value → State → Outcome → State → Prop} {free : Addr → Prop} {Ts : List Cond} {own C : String} {b : Addr} {As rest : List Value} {g : JFrame}
    (S : CallFix p m c cc nL s args Ts own) (hM : Met l y ws rm Pc Qc mc ms free) (cw : vx_CVW R s args own C index y bytes maxL ret hh ws rm mc ms n) (hp : PreV s H C b Pc As)
    (hg : g.method = m) (hn : As.length = n) (hsize : g.locals.size = nL) (hstack : g.stack = As.reverse ++ .ref b :: rest) (hW : 2 * g.monitorRoom + (rest.map fun v => v.category).sum ≤ 8) (hdg : decode cc g.pc = .ok (.invokevirtual index, 3)) (hf : cells + mc ≤ R.cells ∧ slots + ms ≤ R.slots) :
    va_Run p l e R s m args below meth c H locs cells slots mc ms g rest (Qc (Value.ref b :: As).toArray) free := by
  obtain ⟨⟨hrc, hrs, hfr, hlo, hws, hcw⟩, hcode, hini, hy, hlen, hl, hin, hse⟩ := cw
  have hK : Back l R p e below s args y 3 8 (PreOf R mc ms Pc) (PostOf Qc mc ms free) := va_backW (hh := hh) (bytes := bytes) (maxL := maxL) (ret := ret) hM hp.1 hrc hrs hfr hlo hws hcw (fun a' U hW => word_at hW (Or.inl (by first | rfl | simp [Cond.onTables, Cond.keeps, Cond.steady])) hini)
  obtain ⟨hx, hb, hml, ho, -⟩ := S
  obtain ⟨-, ⟨cellB, hcB, hoB, hclB⟩, hPc⟩ := hp
  intro T hT X
  obtain ⟨v, vm₁, ⟨U', l2, c2, s2⟩, hW₁, X', ⟨g', mk, t, L, e1, e2, hq, h1, hL, h2, h3⟩, st⟩ := vx_callVW X hx (C := C) (hh := hh) (bytes := bytes) (maxL := maxL) (ret := ret) ho hl hin hse hcode hy hK (by rw [hT]; exact hcB) hoB hclB hg (hsize.trans hml.symm) (argsL := As) (rest := rest) (fun sig h => hn.trans (hlen sig h)) hstack hW (by rw [hb]; exact hdg)
    (fun vm₁ hW₁ => ⟨hf.1, hf.2, hPc (T.setVm vm₁) hT hW₁⟩)
  dsimp only [Pt.U, Pt.locs, Pt.cells, Pt.slots] at X' e1 e2 h1 h2 h3 st
  subst h1; subst h2; subst h3
  exact ⟨v, (T.setVm vm₁).calling g' mk (Value.ref b :: As).toArray, t, U', L, hT, X', hL, e1, e2, hq, st⟩
section
variable {y : MethodName} {bytes cc : ByteArray} {maxL nL mc ms n index : Nat} {ret : Option FieldType} {ws : List Cond} {rm : Room} {Pc : Array Value → State → Prop} {Qc : Array Value → State → Outcome → State → Prop} {XC : String → State → State → Prop} {free : Addr → Prop} {Ts : List Cond} {own C : String} {b : Addr} {As rest : List Value} {g : JFrame}
theorem vx_runVX {hh : List (Nat × Nat × Nat × Nat)} (S : CallFix p m c cc nL s args Ts own) (hM : vx_Met l y ws rm Pc Qc XC mc ms free) (cw : vx_CVW R s args own C index y bytes maxL ret hh ws rm mc ms n) (hp : PreV s H C b Pc As)
    (hg : g.method = m) (hn : As.length = n) (hsize : g.locals.size = nL) (hstack : g.stack = As.reverse ++ .ref b :: rest) (hW : 2 * g.monitorRoom + (rest.map fun v => v.category).sum ≤ 8) (hdg : decode cc g.pc = .ok (.invokevirtual index, 3)) (hf : cells + mc ≤ R.cells ∧ slots + ms ≤ R.slots) :
    vx_Run p l e R s m args below meth c H locs cells slots mc ms g rest (Qc (Value.ref b :: As).toArray) XC free := by
  obtain ⟨⟨hrc, hrs, hfr, hlo, hws, hcw⟩, hcode, hini, hy, hlen, hl, hin, hse⟩ := cw
  have hK : vx_Back l R p e below s args y 3 8 (PreOf R mc ms Pc) (PostOf Qc mc ms free) (vx_Post XC mc ms free) := vx_backW (hh := hh) (bytes := bytes) (maxL := maxL) (ret := ret) hM hp.1 hrc hrs hfr hlo hws hcw (fun a' U hW => word_at hW (Or.inl (by first | rfl | simp [Cond.onTables, Cond.keeps, Cond.steady])) hini)
  obtain ⟨hx, hb, hml, ho, -⟩ := S
  obtain ⟨-, ⟨cellB, hcB, hoB, hclB⟩, hPc⟩ := hp
  intro T hT X
  rcases vx_callVX X hx (C := C) (hh := hh) (bytes := bytes) (maxL := maxL) (ret := ret) ho hl hin hse hcode hy hK (by rw [hT]; exact hcB) hoB hclB hg (hsize.trans hml.symm) (argsL := As) (rest := rest) (fun sig h => hn.trans (hlen sig h)) hstack hW (by rw [hb]; exact hdg)
    (fun vm₁ hW₁ => ⟨hf.1, hf.2, hPc (T.setVm vm₁) hT hW₁⟩) with ⟨v, vm₁, ⟨U', l2, c2, s2⟩, hW₁, X', ⟨g', mk, t, L, e1, e2, hq, h1, hL, h2, h3⟩, st⟩ | ⟨q, vm₁, ⟨U', l2, c2, s2⟩, hW₁, X', ⟨g', mk, t, L, E, ce, e1, e2, hq, hce, hcv, hcl, h1, hL, h2, h3⟩, st⟩
  · dsimp only [Pt.U, Pt.locs, Pt.cells, Pt.slots] at X' e1 e2 h1 h2 h3 st
    subst h1; subst h2; subst h3
    exact Or.inl ⟨v, (T.setVm vm₁).calling g' mk (Value.ref b :: As).toArray, t, U', L, hT, X', hL, e1, e2, hq, st⟩
  · dsimp only [Pt.U, Pt.locs, Pt.cells, Pt.slots] at X' e1 e2 h1 h2 h3 st hcl
    subst h1; subst h2; subst h3
    exact Or.inr ⟨q, (T.setVm vm₁).calling g' mk (Value.ref b :: As).toArray, t, U', L, E, ce, hT, X', hL, e1, e2, hq, hce, hcv, vx_cls hW₁ hcl, st⟩
theorem vx_runSX {hh : List (Nat × Nat × Nat × Nat)} (S : CallFix p m c cc nL s args Ts own) (hM : vx_Met l y ws rm Pc Qc XC mc ms free) (cw : vx_CSW R s args own index y bytes maxL ret hh ws rm mc ms n) (hp : PreS s H Pc As)
    (hg : g.method = m) (hn : As.length = n) (hsize : g.locals.size = nL) (hstack : g.stack = As.reverse ++ rest) (hW : 2 * g.monitorRoom + (rest.map fun v => v.category).sum ≤ 8) (hdg : decode cc g.pc = .ok (.invokestatic index, 3)) (hf : cells + mc ≤ R.cells ∧ slots + ms ≤ R.slots) :
    vx_Run p l e R s m args below meth c H locs cells slots mc ms g rest (Qc As.toArray) XC free := by
  obtain ⟨⟨hrc, hrs, hfr, hlo, hws, hcw⟩, hcode, hini, hy, hlen, hl, hstt⟩ := cw
  have hK : vx_Back l R p e below s args y 3 8 (PreOf R mc ms Pc) (PostOf Qc mc ms free) (vx_Post XC mc ms free) := vx_backW (hh := hh) (bytes := bytes) (maxL := maxL) (ret := ret) hM hp.1 hrc hrs hfr hlo hws hcw (fun a' U hW => word_at hW (Or.inl (by first | rfl | simp [Cond.onTables, Cond.keeps, Cond.steady])) hini)
  obtain ⟨hx, hb, hml, ho, -⟩ := S
  intro T hT X
  rcases vx_callSX X hx (hh := hh) (bytes := bytes) (maxL := maxL) (ret := ret) ho hl hstt hini hcode hy hK hg (hsize.trans hml.symm) (argsL := As) (rest := rest) (fun sig h => hn.trans (hlen sig h)) hstack hW (by rw [hb]; exact hdg)
    (fun vm₁ hW₁ => ⟨hf.1, hf.2, hp.2 (T.setVm vm₁) hT hW₁⟩) with ⟨v, vm₁, ⟨U', l2, c2, s2⟩, hW₁, X', ⟨g', mk, t, L, e1, e2, hq, h1, hL, h2, h3⟩, st⟩ | ⟨q, vm₁, ⟨U', l2, c2, s2⟩, hW₁, X', ⟨g', mk, t, L, E, ce, e1, e2, hq, hce, hcv, hcl, h1, hL, h2, h3⟩, st⟩
  · dsimp only [Pt.U, Pt.locs, Pt.cells, Pt.slots] at X' e1 e2 h1 h2 h3 st
    subst h1; subst h2; subst h3
    exact Or.inl ⟨v, (T.setVm vm₁).calling g' mk As.toArray, t, U', L, hT, X', hL, e1, e2, hq, st⟩
  · dsimp only [Pt.U, Pt.locs, Pt.cells, Pt.slots] at X' e1 e2 h1 h2 h3 st hcl
    subst h1; subst h2; subst h3
    exact Or.inr ⟨q, (T.setVm vm₁).calling g' mk As.toArray, t, U', L, E, ce, hT, X', hL, e1, e2, hq, hce, hcv, vx_cls hW₁ hcl, st⟩
end
end VXH
theorem vx_ofWH {l : Launch} {y : MethodName} {ws ws' : List Cond} {rm : Room} {Pc : Array Value → State → Prop} {Qc : Array Value → State → Outcome → State → Prop} {XC : String → State → State → Prop} {mc ms : Nat} {free : Addr → Prop} {cc : ByteArray} {maxL : Nat} {ret : Option FieldType} {hh : List (Nat × Nat × Nat × Nat)}
    (hy : plainName y.cls = true) (hw : ws = Cond.codeWith y cc maxL ret hh :: ws')
    (body : ∀ p e s m args below meth c s₁, BodyLoose p l y (headSpec ws rm) cc maxL ret e s m args below meth c s₁ → c.maxLocals = maxL → Pc args s →
      W p l e (headSpec ws rm).room s m args below meth c s.heap [] 0 0 (vx_MQ below Qc XC args s mc ms free) (entryFrame m args maxL)) : vx_Met l y ws rm Pc Qc XC mc ms free := by
  refine MetFree.of_bodyS (code := cc) (maxLocals := maxL) (ret := ret) hy ?_ ?_
  · intro args s m h hn
    obtain ⟨m9, meth, c, hn9, h1, h2, h3, h4, -, h5, h6, -⟩ := Cond.codeWith_spec (atoms_spec (ws := ws) h _ (by rw [hw]; exact List.mem_cons_self))
    cases hn.symm.trans hn9
    exact ⟨meth, c, h1, h2, h3, h4, h5, h6⟩
  · intro p e s m args below meth c s₁ B hml hP _
    have hh0 : s₁.heap = s.heap := by rw [B.state]; rfl
    obtain ⟨t, a1, o, b1, b2, b3⟩ := body p e s m args below meth c s₁ B hml hP s₁ hh0 (Stand.of_body B)
    exact ⟨t, o, a1, b1, b2, b3⟩
/-! ===== END ===== -/

/-! ===== BEGIN printed: names, fields, word lists, decode rows ===== -/
def RX0 : String := "GhostLayers$Blocks"
def TX0 : u_T := fun k => match k with
  | 0 => ("GhostLayers$Blocks", "stored", "[I", true)
  | 1 => ("GhostLayers$Blocks", "value", "[I", true)
  | 2 => ("GhostLayers$Blocks", "owner", "[I", true)
  | 3 => ("GhostLayers$Blocks", "since", "[I", true)
  | 4 => ("GhostLayers$Blocks", "list", "[I", true)
  | 5 => ("GhostLayers$Blocks", "ghostList", "[I", true)
  | 6 => ("GhostLayers$Blocks", "head", "I", false)
  | _ => ("GhostLayers$Blocks", "writtenBack", "I", false)
def tyX0 : Nat → FieldType := fun k => match k with
  | 0 => .array .int
  | 1 => .array .int
  | 2 => .array .int
  | 3 => .array .int
  | 4 => .array .int
  | 5 => .array .int
  | 6 => .int
  | _ => .int
abbrev wsX00 : List Cond := u_ws RX0 TX0 8
theorem nmX0 : ∀ a, a < 8 → ∀ b, b < 8 → a ≠ b → (TX0 a).2.1 ≠ (TX0 b).2.1 := by decide +kernel
theorem tyX0_ok : ∀ k, k < 8 → parseFieldDescriptor (TX0 k).2.2.1 = some (tyX0 k) := by decide +kernel
abbrev cX0_init : ByteArray := prog_2_method_1_code
def yX0_init : MethodName := ⟨RX0, "<init>", "()V"⟩
abbrev cX0_storedOf : ByteArray := prog_2_method_2_code
def yX0_storedOf : MethodName := ⟨RX0, "storedOf", "(I)I"⟩
abbrev cX0_valueOf : ByteArray := prog_2_method_3_code
def yX0_valueOf : MethodName := ⟨RX0, "valueOf", "(I)I"⟩
abbrev cX0_ownerOf : ByteArray := prog_2_method_4_code
def yX0_ownerOf : MethodName := ⟨RX0, "ownerOf", "(I)I"⟩
abbrev cX0_sinceOf : ByteArray := prog_2_method_5_code
def yX0_sinceOf : MethodName := ⟨RX0, "sinceOf", "(I)I"⟩
abbrev cX0_isDirty : ByteArray := prog_2_method_6_code
def yX0_isDirty : MethodName := ⟨RX0, "isDirty", "(I)Z"⟩
abbrev cX0_listOf : ByteArray := prog_2_method_7_code
def yX0_listOf : MethodName := ⟨RX0, "listOf", "(I)I"⟩
abbrev cX0_ghostListOf : ByteArray := prog_2_method_8_code
def yX0_ghostListOf : MethodName := ⟨RX0, "ghostListOf", "(I)I"⟩
abbrev cX0_makeCleanUnit : ByteArray := prog_2_method_9_code
def yX0_makeCleanUnit : MethodName := ⟨RX0, "makeCleanUnit", "(I)V"⟩
abbrev cX0_putUnitIn : ByteArray := prog_2_method_10_code
def yX0_putUnitIn : MethodName := ⟨RX0, "putUnitIn", "(II)V"⟩
abbrev cX0_dropUnit : ByteArray := prog_2_method_11_code
def yX0_dropUnit : MethodName := ⟨RX0, "dropUnit", "(I)V"⟩
abbrev cX0_dropAll : ByteArray := prog_2_method_12_code
def yX0_dropAll : MethodName := ⟨RX0, "dropAll", "()V"⟩
abbrev cX0_makeGhostOf : ByteArray := prog_2_method_13_code
def yX0_makeGhostOf : MethodName := ⟨RX0, "makeGhostOf", "(II)V"⟩
abbrev cX0_giveTo : ByteArray := prog_2_method_14_code
def yX0_giveTo : MethodName := ⟨RX0, "giveTo", "(II)V"⟩
abbrev cX0_changeValue : ByteArray := prog_2_method_15_code
def yX0_changeValue : MethodName := ⟨RX0, "changeValue", "(III)V"⟩
abbrev cX0_writeBack : ByteArray := prog_2_method_16_code
def yX0_writeBack : MethodName := ⟨RX0, "writeBack", "(I)V"⟩
abbrev cX0_writeBackSome : ByteArray := prog_2_method_17_code
def yX0_writeBackSome : MethodName := ⟨RX0, "writeBackSome", "(I)I"⟩
abbrev cX0_howManyDirty : ByteArray := prog_2_method_18_code
def yX0_howManyDirty : MethodName := ⟨RX0, "howManyDirty", "()I"⟩
abbrev cX0_dirtyAt : ByteArray := prog_2_method_19_code
def yX0_dirtyAt : MethodName := ⟨RX0, "dirtyAt", "(I)I"⟩
abbrev cX0_rankOf : ByteArray := prog_2_method_20_code
def yX0_rankOf : MethodName := ⟨RX0, "rankOf", "(I)I"⟩
abbrev cX0_dirtyLongest : ByteArray := prog_2_method_21_code
def yX0_dirtyLongest : MethodName := ⟨RX0, "dirtyLongest", "()I"⟩
abbrev cX0_howManyDirtySince : ByteArray := prog_2_method_22_code
def yX0_howManyDirtySince : MethodName := ⟨RX0, "howManyDirtySince", "(I)I"⟩
abbrev cX0_howManyDiffer : ByteArray := prog_2_method_23_code
def yX0_howManyDiffer : MethodName := ⟨RX0, "howManyDiffer", "()I"⟩
abbrev cX0_longestChain : ByteArray := prog_2_method_24_code
def yX0_longestChain : MethodName := ⟨RX0, "longestChain", "(I)I"⟩
abbrev cX0_copyFrom : ByteArray := prog_2_method_25_code
def yX0_copyFrom : MethodName := ⟨RX0, "copyFrom", "(LGhostLayers$Blocks;)V"⟩
def RX1 : String := "GhostLayers$Cache"
def TX1 : u_T := fun k => match k with
  | 0 => ("GhostLayers$Cache", "blocks", "LGhostLayers$Blocks;", true)
  | 1 => ("GhostLayers$Cache", "tally", "LGhostLayers$Tally;", true)
  | 2 => ("GhostLayers$Cache", "recent", "LGhostLayers$Row;", true)
  | 3 => ("GhostLayers$Cache", "frequent", "LGhostLayers$Row;", true)
  | 4 => ("GhostLayers$Cache", "lower", "LGhostLayers$Row;", true)
  | 5 => ("GhostLayers$Cache", "recentGhosts", "LGhostLayers$Row;", true)
  | 6 => ("GhostLayers$Cache", "frequentGhosts", "LGhostLayers$Row;", true)
  | 7 => ("GhostLayers$Cache", "clients", "[LGhostLayers$Client;", true)
  | 8 => ("GhostLayers$Cache", "upperUnits", "[I", true)
  | 9 => ("GhostLayers$Cache", "clientCount", "I", false)
  | 10 => ("GhostLayers$Cache", "length", "I", false)
  | 11 => ("GhostLayers$Cache", "limit", "I", false)
  | 12 => ("GhostLayers$Cache", "up", "I", false)
  | 13 => ("GhostLayers$Cache", "low", "I", false)
  | _ => ("GhostLayers$Cache", "target", "I", false)
def tyX1 : Nat → FieldType := fun k => match k with
  | 0 => .object "GhostLayers$Blocks"
  | 1 => .object "GhostLayers$Tally"
  | 2 => .object "GhostLayers$Row"
  | 3 => .object "GhostLayers$Row"
  | 4 => .object "GhostLayers$Row"
  | 5 => .object "GhostLayers$Row"
  | 6 => .object "GhostLayers$Row"
  | 7 => .array (.object "GhostLayers$Client")
  | 8 => .array .int
  | 9 => .int
  | 10 => .int
  | 11 => .int
  | 12 => .int
  | 13 => .int
  | _ => .int
abbrev wsX10 : List Cond := u_ws RX1 TX1 15
theorem nmX1 : ∀ a, a < 15 → ∀ b, b < 15 → a ≠ b → (TX1 a).2.1 ≠ (TX1 b).2.1 := by decide +kernel
theorem tyX1_ok : ∀ k, k < 15 → parseFieldDescriptor (TX1 k).2.2.1 = some (tyX1 k) := by decide +kernel
abbrev cX1_init : ByteArray := prog_3_method_1_code
def yX1_init : MethodName := ⟨RX1, "<init>", "()V"⟩
abbrev cX1_rowOf : ByteArray := prog_3_method_2_code
def yX1_rowOf : MethodName := ⟨RX1, "rowOf", "(I)LGhostLayers$Row;"⟩
abbrev cX1_clientOf : ByteArray := prog_3_method_3_code
def yX1_clientOf : MethodName := ⟨RX1, "clientOf", "(I)LGhostLayers$Client;"⟩
abbrev cX1_weightOf : ByteArray := prog_3_method_4_code
def yX1_weightOf : MethodName := ⟨RX1, "weightOf", "(I)I"⟩
abbrev cX1_runAt : ByteArray := prog_3_method_5_code
def yX1_runAt : MethodName := ⟨RX1, "runAt", "(II)I"⟩
abbrev cX1_sumOfWeights : ByteArray := prog_3_method_6_code
def yX1_sumOfWeights : MethodName := ⟨RX1, "sumOfWeights", "()I"⟩
abbrev cX1_numberOf : ByteArray := prog_3_method_7_code
def yX1_numberOf : MethodName := ⟨RX1, "numberOf", "(I)I"⟩
abbrev cX1_numberOfClient : ByteArray := prog_3_method_8_code
def yX1_numberOfClient : MethodName := ⟨RX1, "numberOfClient", "(II)I"⟩
abbrev cX1_numberOfBlock : ByteArray := prog_3_method_9_code
def yX1_numberOfBlock : MethodName := ⟨RX1, "numberOfBlock", "(II)I"⟩
abbrev cX1_placeOfUnit : ByteArray := prog_3_method_10_code
def yX1_placeOfUnit : MethodName := ⟨RX1, "placeOfUnit", "(I)I"⟩
abbrev cX1_ownedBlock : ByteArray := prog_3_method_11_code
def yX1_ownedBlock : MethodName := ⟨RX1, "ownedBlock", "(III)I"⟩
abbrev cX1_sumOfAges : ByteArray := prog_3_method_12_code
def yX1_sumOfAges : MethodName := ⟨RX1, "sumOfAges", "(I)I"⟩
abbrev cX1_howManyOwned : ByteArray := prog_3_method_13_code
def yX1_howManyOwned : MethodName := ⟨RX1, "howManyOwned", "(LGhostLayers$Row;I)I"⟩
abbrev cX1_upperUnitsOf : ByteArray := prog_3_method_14_code
def yX1_upperUnitsOf : MethodName := ⟨RX1, "upperUnitsOf", "(I)I"⟩
abbrev cX1_unitsAbove : ByteArray := prog_3_method_15_code
def yX1_unitsAbove : MethodName := ⟨RX1, "unitsAbove", "(III)I"⟩
abbrev cX1_addOne : ByteArray := prog_3_method_16_code
def yX1_addOne : MethodName := ⟨RX1, "addOne", "(I)I"⟩
abbrev cX1_changeWeight : ByteArray := prog_3_method_17_code
def yX1_changeWeight : MethodName := ⟨RX1, "changeWeight", "(II)I"⟩
abbrev cX1_changeSetting : ByteArray := prog_3_method_18_code
def yX1_changeSetting : MethodName := ⟨RX1, "changeSetting", "(II)I"⟩
abbrev cX1_reshape : ByteArray := prog_3_method_19_code
def yX1_reshape : MethodName := ⟨RX1, "reshape", "(II)I"⟩
abbrev cX1_access : ByteArray := prog_3_method_20_code
def yX1_access : MethodName := ⟨RX1, "access", "(IIZ)I"⟩
abbrev cX1_kindOf : ByteArray := prog_3_method_21_code
def yX1_kindOf : MethodName := ⟨RX1, "kindOf", "(I)I"⟩
abbrev cX1_makeMostFrequent : ByteArray := prog_3_method_22_code
def yX1_makeMostFrequent : MethodName := ⟨RX1, "makeMostFrequent", "(I)V"⟩
abbrev cX1_scanInLower : ByteArray := prog_3_method_23_code
def yX1_scanInLower : MethodName := ⟨RX1, "scanInLower", "(I)V"⟩
abbrev cX1_bringToUpper : ByteArray := prog_3_method_24_code
def yX1_bringToUpper : MethodName := ⟨RX1, "bringToUpper", "(I)V"⟩
abbrev cX1_learnFrom : ByteArray := prog_3_method_25_code
def yX1_learnFrom : MethodName := ⟨RX1, "learnFrom", "(I)V"⟩
abbrev cX1_loseGhost : ByteArray := prog_3_method_26_code
def yX1_loseGhost : MethodName := ⟨RX1, "loseGhost", "(I)V"⟩
abbrev cX1_unitToDemote : ByteArray := prog_3_method_27_code
def yX1_unitToDemote : MethodName := ⟨RX1, "unitToDemote", "(Z)I"⟩
abbrev cX1_isRecentTooLong : ByteArray := prog_3_method_28_code
def yX1_isRecentTooLong : MethodName := ⟨RX1, "isRecentTooLong", "(Z)Z"⟩
abbrev cX1_addOwners : ByteArray := prog_3_method_29_code
def yX1_addOwners : MethodName := ⟨RX1, "addOwners", "(LGhostLayers$Row;)V"⟩
abbrev cX1_demote : ByteArray := prog_3_method_30_code
def yX1_demote : MethodName := ⟨RX1, "demote", "(I)V"⟩
abbrev cX1_unitToLeave : ByteArray := prog_3_method_31_code
def yX1_unitToLeave : MethodName := ⟨RX1, "unitToLeave", "()I"⟩
abbrev cX1_makeRoomInLower : ByteArray := prog_3_method_32_code
def yX1_makeRoomInLower : MethodName := ⟨RX1, "makeRoomInLower", "()V"⟩
abbrev cX1_finishWrite : ByteArray := prog_3_method_33_code
def yX1_finishWrite : MethodName := ⟨RX1, "finishWrite", "(II)V"⟩
abbrev cX1_loseBlock : ByteArray := prog_3_method_34_code
def yX1_loseBlock : MethodName := ⟨RX1, "loseBlock", "(I)Z"⟩
abbrev cX1_copyFrom : ByteArray := prog_3_method_35_code
def yX1_copyFrom : MethodName := ⟨RX1, "copyFrom", "(LGhostLayers$Cache;)V"⟩
def RX2 : String := "GhostLayers$Client"
def TX2 : u_T := fun k => match k with
  | 0 => ("GhostLayers$Client", "weight", "I", false)
  | 1 => ("GhostLayers$Client", "run", "I", false)
  | 2 => ("GhostLayers$Client", "last", "I", false)
  | 3 => ("GhostLayers$Client", "reads", "I", false)
  | 4 => ("GhostLayers$Client", "writes", "I", false)
  | 5 => ("GhostLayers$Client", "upperHits", "I", false)
  | 6 => ("GhostLayers$Client", "lowerHits", "I", false)
  | _ => ("GhostLayers$Client", "misses", "I", false)
def tyX2 : Nat → FieldType := fun k => match k with
  | 0 => .int
  | 1 => .int
  | 2 => .int
  | 3 => .int
  | 4 => .int
  | 5 => .int
  | 6 => .int
  | _ => .int
abbrev wsX20 : List Cond := u_ws RX2 TX2 8
theorem nmX2 : ∀ a, a < 8 → ∀ b, b < 8 → a ≠ b → (TX2 a).2.1 ≠ (TX2 b).2.1 := by decide +kernel
theorem tyX2_ok : ∀ k, k < 8 → parseFieldDescriptor (TX2 k).2.2.1 = some (tyX2 k) := by decide +kernel
abbrev cX2_init : ByteArray := prog_4_method_1_code
def yX2_init : MethodName := ⟨RX2, "<init>", "()V"⟩
abbrev cX2_startAfresh : ByteArray := prog_4_method_2_code
def yX2_startAfresh : MethodName := ⟨RX2, "startAfresh", "(I)V"⟩
abbrev cX2_runWith : ByteArray := prog_4_method_3_code
def yX2_runWith : MethodName := ⟨RX2, "runWith", "(I)I"⟩
abbrev cX2_countAccess : ByteArray := prog_4_method_4_code
def yX2_countAccess : MethodName := ⟨RX2, "countAccess", "(IZ)V"⟩
abbrev cX2_numberOf : ByteArray := prog_4_method_5_code
def yX2_numberOf : MethodName := ⟨RX2, "numberOf", "(I)I"⟩
abbrev cX2_copyFrom : ByteArray := prog_4_method_6_code
def yX2_copyFrom : MethodName := ⟨RX2, "copyFrom", "(LGhostLayers$Client;)V"⟩
def RX3 : String := "GhostLayers$History"
def TX3 : u_T := fun k => match k with
  | 0 => ("GhostLayers$History", "states", "[LGhostLayers$Cache;", true)
  | 1 => ("GhostLayers$History", "next", "I", false)
  | _ => ("GhostLayers$History", "count", "I", false)
def tyX3 : Nat → FieldType := fun k => match k with
  | 0 => .array (.object "GhostLayers$Cache")
  | 1 => .int
  | _ => .int
abbrev wsX30 : List Cond := u_ws RX3 TX3 3
theorem nmX3 : ∀ a, a < 3 → ∀ b, b < 3 → a ≠ b → (TX3 a).2.1 ≠ (TX3 b).2.1 := by decide +kernel
theorem tyX3_ok : ∀ k, k < 3 → parseFieldDescriptor (TX3 k).2.2.1 = some (tyX3 k) := by decide +kernel
abbrev cX3_init : ByteArray := prog_5_method_1_code
def yX3_init : MethodName := ⟨RX3, "<init>", "()V"⟩
abbrev cX3_keep : ByteArray := prog_5_method_2_code
def yX3_keep : MethodName := ⟨RX3, "keep", "(LGhostLayers$Cache;)V"⟩
abbrev cX3_takeBack : ByteArray := prog_5_method_3_code
def yX3_takeBack : MethodName := ⟨RX3, "takeBack", "(LGhostLayers$Cache;)Z"⟩
def RX4 : String := "GhostLayers$Page"
def TX4 : u_T := fun k => match k with
  | 0 => ("GhostLayers$Page", "bytes", "[I", true)
  | _ => ("GhostLayers$Page", "size", "I", false)
def tyX4 : Nat → FieldType := fun k => match k with
  | 0 => .array .int
  | _ => .int
abbrev wsX40 : List Cond := u_ws RX4 TX4 2
theorem nmX4 : ∀ a, a < 2 → ∀ b, b < 2 → a ≠ b → (TX4 a).2.1 ≠ (TX4 b).2.1 := by decide +kernel
theorem tyX4_ok : ∀ k, k < 2 → parseFieldDescriptor (TX4 k).2.2.1 = some (tyX4 k) := by decide +kernel
abbrev cX4_init : ByteArray := prog_6_method_1_code
def yX4_init : MethodName := ⟨RX4, "<init>", "()V"⟩
abbrev cX4_byteAt : ByteArray := prog_6_method_2_code
def yX4_byteAt : MethodName := ⟨RX4, "byteAt", "(I)I"⟩
abbrev cX4_addByte : ByteArray := prog_6_method_3_code
def yX4_addByte : MethodName := ⟨RX4, "addByte", "(I)V"⟩
abbrev cX4_addNumber : ByteArray := prog_6_method_4_code
def yX4_addNumber : MethodName := ⟨RX4, "addNumber", "(I)V"⟩
def RX5 : String := "GhostLayers$Row"
def TX5 : u_T := fun k => match k with
  | 0 => ("GhostLayers$Row", "blocks", "[I", true)
  | _ => ("GhostLayers$Row", "size", "I", false)
def tyX5 : Nat → FieldType := fun k => match k with
  | 0 => .array .int
  | _ => .int
abbrev wsX50 : List Cond := u_ws RX5 TX5 2
theorem nmX5 : ∀ a, a < 2 → ∀ b, b < 2 → a ≠ b → (TX5 a).2.1 ≠ (TX5 b).2.1 := by decide +kernel
theorem tyX5_ok : ∀ k, k < 2 → parseFieldDescriptor (TX5 k).2.2.1 = some (tyX5 k) := by decide +kernel
abbrev cX5_init : ByteArray := prog_7_method_1_code
def yX5_init : MethodName := ⟨RX5, "<init>", "()V"⟩
abbrev cX5_blockAt : ByteArray := prog_7_method_2_code
def yX5_blockAt : MethodName := ⟨RX5, "blockAt", "(I)I"⟩
abbrev cX5_placeOf : ByteArray := prog_7_method_3_code
def yX5_placeOf : MethodName := ⟨RX5, "placeOf", "(I)I"⟩
abbrev cX5_howManyIn : ByteArray := prog_7_method_4_code
def yX5_howManyIn : MethodName := ⟨RX5, "howManyIn", "(II)I"⟩
abbrev cX5_putFirst : ByteArray := prog_7_method_5_code
def yX5_putFirst : MethodName := ⟨RX5, "putFirst", "(I)V"⟩
abbrev cX5_takeOut : ByteArray := prog_7_method_6_code
def yX5_takeOut : MethodName := ⟨RX5, "takeOut", "(I)V"⟩
abbrev cX5_copyFrom : ByteArray := prog_7_method_7_code
def yX5_copyFrom : MethodName := ⟨RX5, "copyFrom", "(LGhostLayers$Row;)V"⟩
def RX6 : String := "GhostLayers$Tally"
def TX6 : u_T := fun k => match k with
  | 0 => ("GhostLayers$Tally", "time", "I", false)
  | 1 => ("GhostLayers$Tally", "upperHits", "I", false)
  | 2 => ("GhostLayers$Tally", "lowerHits", "I", false)
  | 3 => ("GhostLayers$Tally", "misses", "I", false)
  | 4 => ("GhostLayers$Tally", "recentGhosts", "I", false)
  | 5 => ("GhostLayers$Tally", "frequentGhosts", "I", false)
  | 6 => ("GhostLayers$Tally", "demoted", "I", false)
  | 7 => ("GhostLayers$Tally", "left", "I", false)
  | 8 => ("GhostLayers$Tally", "scans", "I", false)
  | 9 => ("GhostLayers$Tally", "demotedBlock", "I", false)
  | _ => ("GhostLayers$Tally", "leftBlock", "I", false)
def tyX6 : Nat → FieldType := fun k => match k with
  | 0 => .int
  | 1 => .int
  | 2 => .int
  | 3 => .int
  | 4 => .int
  | 5 => .int
  | 6 => .int
  | 7 => .int
  | 8 => .int
  | 9 => .int
  | _ => .int
abbrev wsX60 : List Cond := u_ws RX6 TX6 11
theorem nmX6 : ∀ a, a < 11 → ∀ b, b < 11 → a ≠ b → (TX6 a).2.1 ≠ (TX6 b).2.1 := by decide +kernel
theorem tyX6_ok : ∀ k, k < 11 → parseFieldDescriptor (TX6 k).2.2.1 = some (tyX6 k) := by decide +kernel
abbrev cX6_init : ByteArray := prog_8_method_1_code
def yX6_init : MethodName := ⟨RX6, "<init>", "()V"⟩
abbrev cX6_countAccess : ByteArray := prog_8_method_2_code
def yX6_countAccess : MethodName := ⟨RX6, "countAccess", "(IZ)V"⟩
abbrev cX6_numberOf : ByteArray := prog_8_method_3_code
def yX6_numberOf : MethodName := ⟨RX6, "numberOf", "(I)I"⟩
abbrev cX6_copyFrom : ByteArray := prog_8_method_4_code
def yX6_copyFrom : MethodName := ⟨RX6, "copyFrom", "(LGhostLayers$Tally;)V"⟩
def RX7 : String := "GhostLayers$Trace"
def TX7 : u_T := fun k => match k with
  | 0 => ("GhostLayers$Trace", "verbs", "[I", true)
  | 1 => ("GhostLayers$Trace", "clients", "[I", true)
  | 2 => ("GhostLayers$Trace", "firsts", "[I", true)
  | 3 => ("GhostLayers$Trace", "seconds", "[I", true)
  | 4 => ("GhostLayers$Trace", "commandCount", "I", false)
  | 5 => ("GhostLayers$Trace", "size", "I", false)
  | 6 => ("GhostLayers$Trace", "errorKind", "I", false)
  | 7 => ("GhostLayers$Trace", "errorPlace", "I", false)
  | 8 => ("GhostLayers$Trace", "text", "[I", true)
  | 9 => ("GhostLayers$Trace", "cursor", "I", false)
  | 10 => ("GhostLayers$Trace", "tokenKind", "I", false)
  | 11 => ("GhostLayers$Trace", "tokenStart", "I", false)
  | _ => ("GhostLayers$Trace", "tokenNumber", "I", false)
def tyX7 : Nat → FieldType := fun k => match k with
  | 0 => .array .int
  | 1 => .array .int
  | 2 => .array .int
  | 3 => .array .int
  | 4 => .int
  | 5 => .int
  | 6 => .int
  | 7 => .int
  | 8 => .array .int
  | 9 => .int
  | 10 => .int
  | 11 => .int
  | _ => .int
abbrev wsX70 : List Cond := u_ws RX7 TX7 13
theorem nmX7 : ∀ a, a < 13 → ∀ b, b < 13 → a ≠ b → (TX7 a).2.1 ≠ (TX7 b).2.1 := by decide +kernel
theorem tyX7_ok : ∀ k, k < 13 → parseFieldDescriptor (TX7 k).2.2.1 = some (tyX7 k) := by decide +kernel
abbrev cX7_init : ByteArray := prog_9_method_1_code
def yX7_init : MethodName := ⟨RX7, "<init>", "()V"⟩
abbrev cX7_addByte : ByteArray := prog_9_method_2_code
def yX7_addByte : MethodName := ⟨RX7, "addByte", "(I)V"⟩
abbrev cX7_partOf : ByteArray := prog_9_method_3_code
def yX7_partOf : MethodName := ⟨RX7, "partOf", "([II)I"⟩
abbrev cX7_parse : ByteArray := prog_9_method_4_code
def yX7_parse : MethodName := ⟨RX7, "parse", "()Z"⟩
abbrev cX7_parseCommand : ByteArray := prog_9_method_5_code
def yX7_parseCommand : MethodName := ⟨RX7, "parseCommand", "()V"⟩
abbrev cX7_fail : ByteArray := prog_9_method_6_code
def yX7_fail : MethodName := ⟨RX7, "fail", "(I)V"⟩
abbrev cX7_takeNumber : ByteArray := prog_9_method_7_code
def yX7_takeNumber : MethodName := ⟨RX7, "takeNumber", "(II)I"⟩
abbrev cX7_takeSemicolon : ByteArray := prog_9_method_8_code
def yX7_takeSemicolon : MethodName := ⟨RX7, "takeSemicolon", "()V"⟩
abbrev cX7_nextToken : ByteArray := prog_9_method_9_code
def yX7_nextToken : MethodName := ⟨RX7, "nextToken", "()V"⟩
abbrev cX7_readWord : ByteArray := prog_9_method_10_code
def yX7_readWord : MethodName := ⟨RX7, "readWord", "()V"⟩
abbrev cX7_isWord : ByteArray := prog_9_method_11_code
def yX7_isWord : MethodName := ⟨RX7, "isWord", "(Ljava/lang/String;)Z"⟩
abbrev cX7_readNumber : ByteArray := prog_9_method_12_code
def yX7_readNumber : MethodName := ⟨RX7, "readNumber", "()V"⟩
abbrev cX7_signAt : ByteArray := prog_9_method_13_code
def yX7_signAt : MethodName := ⟨RX7, "signAt", "(I)I"⟩
abbrev cX7_isBlank : ByteArray := prog_9_method_14_code
def yX7_isBlank : MethodName := ⟨RX7, "isBlank", "(I)Z"⟩
abbrev cX7_isLetter : ByteArray := prog_9_method_15_code
def yX7_isLetter : MethodName := ⟨RX7, "isLetter", "(I)Z"⟩
abbrev cX7_isDigit : ByteArray := prog_9_method_16_code
def yX7_isDigit : MethodName := ⟨RX7, "isDigit", "(I)Z"⟩
def RX8 : String := "GhostLayers"
def TX8 : u_T := fun k => match k with
  | 0 => ("GhostLayers", "trace", "LGhostLayers$Trace;", true)
  | 1 => ("GhostLayers", "page", "LGhostLayers$Page;", true)
  | 2 => ("GhostLayers", "now", "LGhostLayers$Cache;", true)
  | 3 => ("GhostLayers", "trial", "LGhostLayers$Cache;", true)
  | 4 => ("GhostLayers", "past", "LGhostLayers$History;", true)
  | _ => ("GhostLayers", "saved", "[LGhostLayers$Cache;", true)
def tyX8 : Nat → FieldType := fun k => match k with
  | 0 => .object "GhostLayers$Trace"
  | 1 => .object "GhostLayers$Page"
  | 2 => .object "GhostLayers$Cache"
  | 3 => .object "GhostLayers$Cache"
  | 4 => .object "GhostLayers$History"
  | _ => .array (.object "GhostLayers$Cache")
abbrev wsX80 : List Cond := u_ws RX8 TX8 6
theorem nmX8 : ∀ a, a < 6 → ∀ b, b < 6 → a ≠ b → (TX8 a).2.1 ≠ (TX8 b).2.1 := by decide +kernel
theorem tyX8_ok : ∀ k, k < 6 → parseFieldDescriptor (TX8 k).2.2.1 = some (tyX8 k) := by decide +kernel
abbrev cX8_init : ByteArray := prog_1_method_1_code
def yX8_init : MethodName := ⟨RX8, "<init>", "()V"⟩
abbrev cX8_appendText : ByteArray := prog_1_method_2_code
def yX8_appendText : MethodName := ⟨RX8, "appendText", "(I)I"⟩
abbrev cX8_truncateText : ByteArray := prog_1_method_3_code
def yX8_truncateText : MethodName := ⟨RX8, "truncateText", "(I)I"⟩
abbrev cX8_runTrace : ByteArray := prog_1_method_4_code
def yX8_runTrace : MethodName := ⟨RX8, "runTrace", "()I"⟩
abbrev cX8_errorCode : ByteArray := prog_1_method_5_code
def yX8_errorCode : MethodName := ⟨RX8, "errorCode", "()I"⟩
abbrev cX8_errorPosition : ByteArray := prog_1_method_6_code
def yX8_errorPosition : MethodName := ⟨RX8, "errorPosition", "()I"⟩
abbrev cX8_addClient : ByteArray := prog_1_method_7_code
def yX8_addClient : MethodName := ⟨RX8, "addClient", "(I)I"⟩
abbrev cX8_setWeight : ByteArray := prog_1_method_8_code
def yX8_setWeight : MethodName := ⟨RX8, "setWeight", "(II)I"⟩
abbrev cX8_set : ByteArray := prog_1_method_9_code
def yX8_set : MethodName := ⟨RX8, "set", "(II)I"⟩
abbrev cX8_shape : ByteArray := prog_1_method_10_code
def yX8_shape : MethodName := ⟨RX8, "shape", "(II)I"⟩
abbrev cX8_count : ByteArray := prog_1_method_11_code
def yX8_count : MethodName := ⟨RX8, "count", "(I)I"⟩
abbrev cX8_client : ByteArray := prog_1_method_12_code
def yX8_client : MethodName := ⟨RX8, "client", "(II)I"⟩
abbrev cX8_block : ByteArray := prog_1_method_13_code
def yX8_block : MethodName := ⟨RX8, "block", "(II)I"⟩
abbrev cX8_at : ByteArray := prog_1_method_14_code
def yX8_at : MethodName := ⟨RX8, "at", "(II)I"⟩
abbrev cX8_read : ByteArray := prog_1_method_15_code
def yX8_read : MethodName := ⟨RX8, "read", "(II)I"⟩
abbrev cX8_write : ByteArray := prog_1_method_16_code
def yX8_write : MethodName := ⟨RX8, "write", "(III)I"⟩
abbrev cX8_flush : ByteArray := prog_1_method_17_code
def yX8_flush : MethodName := ⟨RX8, "flush", "(I)I"⟩
abbrev cX8_forget : ByteArray := prog_1_method_18_code
def yX8_forget : MethodName := ⟨RX8, "forget", "(I)Z"⟩
abbrev cX8_share : ByteArray := prog_1_method_19_code
def yX8_share : MethodName := ⟨RX8, "share", "(I)D"⟩
abbrev cX8_hitShare : ByteArray := prog_1_method_20_code
def yX8_hitShare : MethodName := ⟨RX8, "hitShare", "()F"⟩
abbrev cX8_order : ByteArray := prog_1_method_21_code
def yX8_order : MethodName := ⟨RX8, "order", "(I)I"⟩
abbrev cX8_victim : ByteArray := prog_1_method_22_code
def yX8_victim : MethodName := ⟨RX8, "victim", "(Z)I"⟩
abbrev cX8_leaving : ByteArray := prog_1_method_23_code
def yX8_leaving : MethodName := ⟨RX8, "leaving", "()I"⟩
abbrev cX8_oldest : ByteArray := prog_1_method_24_code
def yX8_oldest : MethodName := ⟨RX8, "oldest", "()I"⟩
abbrev cX8_ages : ByteArray := prog_1_method_25_code
def yX8_ages : MethodName := ⟨RX8, "ages", "(I)I"⟩
abbrev cX8_ownedAt : ByteArray := prog_1_method_26_code
def yX8_ownedAt : MethodName := ⟨RX8, "ownedAt", "(III)I"⟩
abbrev cX8_excess : ByteArray := prog_1_method_27_code
def yX8_excess : MethodName := ⟨RX8, "excess", "(I)F"⟩
abbrev cX8_toScan : ByteArray := prog_1_method_28_code
def yX8_toScan : MethodName := ⟨RX8, "toScan", "(II)I"⟩
abbrev cX8_rank : ByteArray := prog_1_method_29_code
def yX8_rank : MethodName := ⟨RX8, "rank", "(I)I"⟩
abbrev cX8_between : ByteArray := prog_1_method_30_code
def yX8_between : MethodName := ⟨RX8, "between", "(III)I"⟩
abbrev cX8_longest : ByteArray := prog_1_method_31_code
def yX8_longest : MethodName := ⟨RX8, "longest", "(I)I"⟩
abbrev cX8_differing : ByteArray := prog_1_method_32_code
def yX8_differing : MethodName := ⟨RX8, "differing", "()I"⟩
abbrev cX8_stale : ByteArray := prog_1_method_33_code
def yX8_stale : MethodName := ⟨RX8, "stale", "(I)I"⟩
abbrev cX8_wouldBe : ByteArray := prog_1_method_34_code
def yX8_wouldBe : MethodName := ⟨RX8, "wouldBe", "(III)I"⟩
abbrev cX8_ahead : ByteArray := prog_1_method_35_code
def yX8_ahead : MethodName := ⟨RX8, "ahead", "(IIIII)I"⟩
abbrev cX8_bestLength : ByteArray := prog_1_method_36_code
def yX8_bestLength : MethodName := ⟨RX8, "bestLength", "(IIII)I"⟩
abbrev cX8_show : ByteArray := prog_1_method_37_code
def yX8_show : MethodName := ⟨RX8, "show", "(I)I"⟩
abbrev cX8_output : ByteArray := prog_1_method_38_code
def yX8_output : MethodName := ⟨RX8, "output", "(I)I"⟩
abbrev cX8_undo : ByteArray := prog_1_method_39_code
def yX8_undo : MethodName := ⟨RX8, "undo", "()I"⟩
abbrev cX8_save : ByteArray := prog_1_method_40_code
def yX8_save : MethodName := ⟨RX8, "save", "(I)V"⟩
abbrev cX8_restore : ByteArray := prog_1_method_41_code
def yX8_restore : MethodName := ⟨RX8, "restore", "(I)V"⟩
abbrev cX8_needClient : ByteArray := prog_1_method_42_code
def yX8_needClient : MethodName := ⟨RX8, "needClient", "(I)V"⟩
abbrev cX8_needIndex : ByteArray := prog_1_method_43_code
def yX8_needIndex : MethodName := ⟨RX8, "needIndex", "(II)V"⟩
abbrev cX8_needNoLessThanZero : ByteArray := prog_1_method_44_code
def yX8_needNoLessThanZero : MethodName := ⟨RX8, "needNoLessThanZero", "(I)V"⟩
abbrev cX8_needRange : ByteArray := prog_1_method_45_code
def yX8_needRange : MethodName := ⟨RX8, "needRange", "(III)V"⟩
abbrev cX8_needReadsAhead : ByteArray := prog_1_method_46_code
def yX8_needReadsAhead : MethodName := ⟨RX8, "needReadsAhead", "(IIII)V"⟩
abbrev cX8_perform : ByteArray := prog_1_method_47_code
def yX8_perform : MethodName := ⟨RX8, "perform", "(I)Z"⟩
abbrev cX8_predictionOf : ByteArray := prog_1_method_48_code
def yX8_predictionOf : MethodName := ⟨RX8, "predictionOf", "(III)I"⟩
abbrev cX8_readAhead : ByteArray := prog_1_method_49_code
def yX8_readAhead : MethodName := ⟨RX8, "readAhead", "(IIIII)V"⟩
abbrev cX8_differenceAhead : ByteArray := prog_1_method_50_code
def yX8_differenceAhead : MethodName := ⟨RX8, "differenceAhead", "(I)I"⟩
def RX9 : String := "GhostLayersModel"
def TX9 : u_T := fun k => match k with
  | 0 => ("GhostLayersModel", "state", "[I", true)
  | 1 => ("GhostLayersModel", "aside", "[I", true)
  | 2 => ("GhostLayersModel", "past", "[I", true)
  | 3 => ("GhostLayersModel", "saved", "[I", true)
  | 4 => ("GhostLayersModel", "isSaved", "[Z", true)
  | 5 => ("GhostLayersModel", "acts", "I", false)
  | 6 => ("GhostLayersModel", "thrown", "I", false)
  | 7 => ("GhostLayersModel", "text", "[I", true)
  | 8 => ("GhostLayersModel", "commands", "[I", true)
  | 9 => ("GhostLayersModel", "commandCount", "I", false)
  | 10 => ("GhostLayersModel", "textLength", "I", false)
  | 11 => ("GhostLayersModel", "position", "I", false)
  | 12 => ("GhostLayersModel", "tokenStart", "I", false)
  | 13 => ("GhostLayersModel", "token", "I", false)
  | 14 => ("GhostLayersModel", "letters", "I", false)
  | 15 => ("GhostLayersModel", "number", "I", false)
  | 16 => ("GhostLayersModel", "errorCode", "I", false)
  | 17 => ("GhostLayersModel", "errorPosition", "I", false)
  | 18 => ("GhostLayersModel", "word", "J", false)
  | 19 => ("GhostLayersModel", "lastDemoted", "I", false)
  | 20 => ("GhostLayersModel", "lastLeft", "I", false)
  | 21 => ("GhostLayersModel", "output", "[I", true)
  | _ => ("GhostLayersModel", "outputLength", "I", false)
def tyX9 : Nat → FieldType := fun k => match k with
  | 0 => .array .int
  | 1 => .array .int
  | 2 => .array .int
  | 3 => .array .int
  | 4 => .array .boolean
  | 5 => .int
  | 6 => .int
  | 7 => .array .int
  | 8 => .array .int
  | 9 => .int
  | 10 => .int
  | 11 => .int
  | 12 => .int
  | 13 => .int
  | 14 => .int
  | 15 => .int
  | 16 => .int
  | 17 => .int
  | 18 => .long
  | 19 => .int
  | 20 => .int
  | 21 => .array .int
  | _ => .int
abbrev wsX90 : List Cond := u_ws RX9 TX9 23
theorem nmX9 : ∀ a, a < 23 → ∀ b, b < 23 → a ≠ b → (TX9 a).2.1 ≠ (TX9 b).2.1 := by decide +kernel
theorem tyX9_ok : ∀ k, k < 23 → parseFieldDescriptor (TX9 k).2.2.1 = some (tyX9 k) := by decide +kernel
abbrev cX9_init : ByteArray := prog_11_method_1_code
def yX9_init : MethodName := ⟨RX9, "<init>", "()V"⟩
abbrev cX9_thrown : ByteArray := prog_11_method_2_code
def yX9_thrown : MethodName := ⟨RX9, "thrown", "()I"⟩
abbrev cX9_fail : ByteArray := prog_11_method_3_code
def yX9_fail : MethodName := ⟨RX9, "fail", "(I)I"⟩
abbrev cX9_isBetween : ByteArray := prog_11_method_4_code
def yX9_isBetween : MethodName := ⟨RX9, "isBetween", "(III)Z"⟩
abbrev cX9_copy : ByteArray := prog_11_method_5_code
def yX9_copy : MethodName := ⟨RX9, "copy", "([II[II)V"⟩
abbrev cX9_beginAct : ByteArray := prog_11_method_6_code
def yX9_beginAct : MethodName := ⟨RX9, "beginAct", "()V"⟩
abbrev cX9_of : ByteArray := prog_11_method_7_code
def yX9_of : MethodName := ⟨RX9, "of", "(II)I"⟩
abbrev cX9_put : ByteArray := prog_11_method_8_code
def yX9_put : MethodName := ⟨RX9, "put", "(III)V"⟩
abbrev cX9_ofClient : ByteArray := prog_11_method_9_code
def yX9_ofClient : MethodName := ⟨RX9, "ofClient", "(II)I"⟩
abbrev cX9_putClient : ByteArray := prog_11_method_10_code
def yX9_putClient : MethodName := ⟨RX9, "putClient", "(III)V"⟩
abbrev cX9_isClient : ByteArray := prog_11_method_11_code
def yX9_isClient : MethodName := ⟨RX9, "isClient", "(I)Z"⟩
abbrev cX9_isBlock : ByteArray := prog_11_method_12_code
def yX9_isBlock : MethodName := ⟨RX9, "isBlock", "(I)Z"⟩
abbrev cX9_appendText : ByteArray := prog_11_method_13_code
def yX9_appendText : MethodName := ⟨RX9, "appendText", "(I)I"⟩
abbrev cX9_truncateText : ByteArray := prog_11_method_14_code
def yX9_truncateText : MethodName := ⟨RX9, "truncateText", "(I)I"⟩
abbrev cX9_byteAt : ByteArray := prog_11_method_15_code
def yX9_byteAt : MethodName := ⟨RX9, "byteAt", "(I)I"⟩
abbrev cX9_isLetter : ByteArray := prog_11_method_16_code
def yX9_isLetter : MethodName := ⟨RX9, "isLetter", "(I)Z"⟩
abbrev cX9_isDigit : ByteArray := prog_11_method_17_code
def yX9_isDigit : MethodName := ⟨RX9, "isDigit", "(I)Z"⟩
abbrev cX9_nextToken : ByteArray := prog_11_method_18_code
def yX9_nextToken : MethodName := ⟨RX9, "nextToken", "()V"⟩
abbrev cX9_isWord : ByteArray := prog_11_method_19_code
def yX9_isWord : MethodName := ⟨RX9, "isWord", "(Ljava/lang/String;)Z"⟩
abbrev cX9_require : ByteArray := prog_11_method_20_code
def yX9_require : MethodName := ⟨RX9, "require", "(ZI)V"⟩
abbrev cX9_isFine : ByteArray := prog_11_method_21_code
def yX9_isFine : MethodName := ⟨RX9, "isFine", "()Z"⟩
abbrev cX9_advance : ByteArray := prog_11_method_22_code
def yX9_advance : MethodName := ⟨RX9, "advance", "()V"⟩
abbrev cX9_parseNumber : ByteArray := prog_11_method_23_code
def yX9_parseNumber : MethodName := ⟨RX9, "parseNumber", "(II)I"⟩
abbrev cX9_parseCommand : ByteArray := prog_11_method_24_code
def yX9_parseCommand : MethodName := ⟨RX9, "parseCommand", "()V"⟩
abbrev cX9_parseEnd : ByteArray := prog_11_method_25_code
def yX9_parseEnd : MethodName := ⟨RX9, "parseEnd", "(I)I"⟩
abbrev cX9_runTrace : ByteArray := prog_11_method_26_code
def yX9_runTrace : MethodName := ⟨RX9, "runTrace", "()I"⟩
abbrev cX9_runCommand : ByteArray := prog_11_method_27_code
def yX9_runCommand : MethodName := ⟨RX9, "runCommand", "(I)I"⟩
abbrev cX9_errorCode : ByteArray := prog_11_method_28_code
def yX9_errorCode : MethodName := ⟨RX9, "errorCode", "()I"⟩
abbrev cX9_errorPosition : ByteArray := prog_11_method_29_code
def yX9_errorPosition : MethodName := ⟨RX9, "errorPosition", "()I"⟩
abbrev cX9_addClient : ByteArray := prog_11_method_30_code
def yX9_addClient : MethodName := ⟨RX9, "addClient", "(I)I"⟩
abbrev cX9_setWeight : ByteArray := prog_11_method_31_code
def yX9_setWeight : MethodName := ⟨RX9, "setWeight", "(II)I"⟩
abbrev cX9_set : ByteArray := prog_11_method_32_code
def yX9_set : MethodName := ⟨RX9, "set", "(II)I"⟩
abbrev cX9_shape : ByteArray := prog_11_method_33_code
def yX9_shape : MethodName := ⟨RX9, "shape", "(II)I"⟩
abbrev cX9_blockAt : ByteArray := prog_11_method_34_code
def yX9_blockAt : MethodName := ⟨RX9, "blockAt", "(II)I"⟩
abbrev cX9_length : ByteArray := prog_11_method_35_code
def yX9_length : MethodName := ⟨RX9, "length", "(I)I"⟩
abbrev cX9_placeOf : ByteArray := prog_11_method_36_code
def yX9_placeOf : MethodName := ⟨RX9, "placeOf", "(II)I"⟩
abbrev cX9_take : ByteArray := prog_11_method_37_code
def yX9_take : MethodName := ⟨RX9, "take", "(II)V"⟩
abbrev cX9_bring : ByteArray := prog_11_method_38_code
def yX9_bring : MethodName := ⟨RX9, "bring", "(II)V"⟩
abbrev cX9_move : ByteArray := prog_11_method_39_code
def yX9_move : MethodName := ⟨RX9, "move", "(II)V"⟩
abbrev cX9_dropGhost : ByteArray := prog_11_method_40_code
def yX9_dropGhost : MethodName := ⟨RX9, "dropGhost", "(I)V"⟩
abbrev cX9_becomeGhost : ByteArray := prog_11_method_41_code
def yX9_becomeGhost : MethodName := ⟨RX9, "becomeGhost", "(II)V"⟩
abbrev cX9_isDirty : ByteArray := prog_11_method_42_code
def yX9_isDirty : MethodName := ⟨RX9, "isDirty", "(I)Z"⟩
abbrev cX9_dirtyUnits : ByteArray := prog_11_method_43_code
def yX9_dirtyUnits : MethodName := ⟨RX9, "dirtyUnits", "()I"⟩
abbrev cX9_inOrder : ByteArray := prog_11_method_44_code
def yX9_inOrder : MethodName := ⟨RX9, "inOrder", "(I)I"⟩
abbrev cX9_writeUnit : ByteArray := prog_11_method_45_code
def yX9_writeUnit : MethodName := ⟨RX9, "writeUnit", "(I)V"⟩
abbrev cX9_writeBack : ByteArray := prog_11_method_46_code
def yX9_writeBack : MethodName := ⟨RX9, "writeBack", "(I)I"⟩
abbrev cX9_unitsOf : ByteArray := prog_11_method_47_code
def yX9_unitsOf : MethodName := ⟨RX9, "unitsOf", "(IZ)I"⟩
abbrev cX9_allWeights : ByteArray := prog_11_method_48_code
def yX9_allWeights : MethodName := ⟨RX9, "allWeights", "()I"⟩
abbrev cX9_hasTooMuch : ByteArray := prog_11_method_49_code
def yX9_hasTooMuch : MethodName := ⟨RX9, "hasTooMuch", "(I)Z"⟩
abbrev cX9_victimList : ByteArray := prog_11_method_50_code
def yX9_victimList : MethodName := ⟨RX9, "victimList", "(Z)I"⟩
abbrev cX9_victimOf : ByteArray := prog_11_method_51_code
def yX9_victimOf : MethodName := ⟨RX9, "victimOf", "(I)I"⟩
abbrev cX9_leavingUnit : ByteArray := prog_11_method_52_code
def yX9_leavingUnit : MethodName := ⟨RX9, "leavingUnit", "()I"⟩
abbrev cX9_makeRoomBelow : ByteArray := prog_11_method_53_code
def yX9_makeRoomBelow : MethodName := ⟨RX9, "makeRoomBelow", "()V"⟩
abbrev cX9_isFull : ByteArray := prog_11_method_54_code
def yX9_isFull : MethodName := ⟨RX9, "isFull", "()Z"⟩
abbrev cX9_makeRoom : ByteArray := prog_11_method_55_code
def yX9_makeRoom : MethodName := ⟨RX9, "makeRoom", "(Z)V"⟩
abbrev cX9_isScan : ByteArray := prog_11_method_56_code
def yX9_isScan : MethodName := ⟨RX9, "isScan", "(II)Z"⟩
abbrev cX9_countHit : ByteArray := prog_11_method_57_code
def yX9_countHit : MethodName := ⟨RX9, "countHit", "(II)V"⟩
abbrev cX9_clean : ByteArray := prog_11_method_58_code
def yX9_clean : MethodName := ⟨RX9, "clean", "(I)V"⟩
abbrev cX9_scan : ByteArray := prog_11_method_59_code
def yX9_scan : MethodName := ⟨RX9, "scan", "(II)V"⟩
abbrev cX9_learn : ByteArray := prog_11_method_60_code
def yX9_learn : MethodName := ⟨RX9, "learn", "(I)V"⟩
abbrev cX9_come : ByteArray := prog_11_method_61_code
def yX9_come : MethodName := ⟨RX9, "come", "(II)V"⟩
abbrev cX9_access : ByteArray := prog_11_method_62_code
def yX9_access : MethodName := ⟨RX9, "access", "(III)V"⟩
abbrev cX9_read : ByteArray := prog_11_method_63_code
def yX9_read : MethodName := ⟨RX9, "read", "(II)I"⟩
abbrev cX9_write : ByteArray := prog_11_method_64_code
def yX9_write : MethodName := ⟨RX9, "write", "(III)I"⟩
abbrev cX9_flush : ByteArray := prog_11_method_65_code
def yX9_flush : MethodName := ⟨RX9, "flush", "(I)I"⟩
abbrev cX9_forget : ByteArray := prog_11_method_66_code
def yX9_forget : MethodName := ⟨RX9, "forget", "(I)Z"⟩
abbrev cX9_count : ByteArray := prog_11_method_67_code
def yX9_count : MethodName := ⟨RX9, "count", "(I)I"⟩
abbrev cX9_client : ByteArray := prog_11_method_68_code
def yX9_client : MethodName := ⟨RX9, "client", "(II)I"⟩
abbrev cX9_block : ByteArray := prog_11_method_69_code
def yX9_block : MethodName := ⟨RX9, "block", "(II)I"⟩
abbrev cX9_isList : ByteArray := prog_11_method_70_code
def yX9_isList : MethodName := ⟨RX9, "isList", "(I)Z"⟩
abbrev cX9_at : ByteArray := prog_11_method_71_code
def yX9_at : MethodName := ⟨RX9, "at", "(II)I"⟩
abbrev cX9_share : ByteArray := prog_11_method_72_code
def yX9_share : MethodName := ⟨RX9, "share", "(I)D"⟩
abbrev cX9_hitShare : ByteArray := prog_11_method_73_code
def yX9_hitShare : MethodName := ⟨RX9, "hitShare", "()F"⟩
abbrev cX9_order : ByteArray := prog_11_method_74_code
def yX9_order : MethodName := ⟨RX9, "order", "(I)I"⟩
abbrev cX9_victim : ByteArray := prog_11_method_75_code
def yX9_victim : MethodName := ⟨RX9, "victim", "(Z)I"⟩
abbrev cX9_leaving : ByteArray := prog_11_method_76_code
def yX9_leaving : MethodName := ⟨RX9, "leaving", "()I"⟩
abbrev cX9_oldest : ByteArray := prog_11_method_77_code
def yX9_oldest : MethodName := ⟨RX9, "oldest", "()I"⟩
abbrev cX9_ages : ByteArray := prog_11_method_78_code
def yX9_ages : MethodName := ⟨RX9, "ages", "(I)I"⟩
abbrev cX9_ownedAt : ByteArray := prog_11_method_79_code
def yX9_ownedAt : MethodName := ⟨RX9, "ownedAt", "(III)I"⟩
abbrev cX9_excess : ByteArray := prog_11_method_80_code
def yX9_excess : MethodName := ⟨RX9, "excess", "(I)F"⟩
abbrev cX9_runWith : ByteArray := prog_11_method_81_code
def yX9_runWith : MethodName := ⟨RX9, "runWith", "(II)I"⟩
abbrev cX9_toScan : ByteArray := prog_11_method_82_code
def yX9_toScan : MethodName := ⟨RX9, "toScan", "(II)I"⟩
abbrev cX9_rank : ByteArray := prog_11_method_83_code
def yX9_rank : MethodName := ⟨RX9, "rank", "(I)I"⟩
abbrev cX9_between : ByteArray := prog_11_method_84_code
def yX9_between : MethodName := ⟨RX9, "between", "(III)I"⟩
abbrev cX9_isIn : ByteArray := prog_11_method_85_code
def yX9_isIn : MethodName := ⟨RX9, "isIn", "(II)Z"⟩
abbrev cX9_longest : ByteArray := prog_11_method_86_code
def yX9_longest : MethodName := ⟨RX9, "longest", "(I)I"⟩
abbrev cX9_differing : ByteArray := prog_11_method_87_code
def yX9_differing : MethodName := ⟨RX9, "differing", "()I"⟩
abbrev cX9_stale : ByteArray := prog_11_method_88_code
def yX9_stale : MethodName := ⟨RX9, "stale", "(I)I"⟩
abbrev cX9_wouldBe : ByteArray := prog_11_method_89_code
def yX9_wouldBe : MethodName := ⟨RX9, "wouldBe", "(III)I"⟩
abbrev cX9_answerAbout : ByteArray := prog_11_method_90_code
def yX9_answerAbout : MethodName := ⟨RX9, "answerAbout", "(II)I"⟩
abbrev cX9_isPlan : ByteArray := prog_11_method_91_code
def yX9_isPlan : MethodName := ⟨RX9, "isPlan", "(III)Z"⟩
abbrev cX9_readAll : ByteArray := prog_11_method_92_code
def yX9_readAll : MethodName := ⟨RX9, "readAll", "(IIII)V"⟩
abbrev cX9_numberFor : ByteArray := prog_11_method_93_code
def yX9_numberFor : MethodName := ⟨RX9, "numberFor", "(I)I"⟩
abbrev cX9_ahead : ByteArray := prog_11_method_94_code
def yX9_ahead : MethodName := ⟨RX9, "ahead", "(IIIII)I"⟩
abbrev cX9_bestLength : ByteArray := prog_11_method_95_code
def yX9_bestLength : MethodName := ⟨RX9, "bestLength", "(IIII)I"⟩
abbrev cX9_emit : ByteArray := prog_11_method_96_code
def yX9_emit : MethodName := ⟨RX9, "emit", "(I)V"⟩
abbrev cX9_show : ByteArray := prog_11_method_97_code
def yX9_show : MethodName := ⟨RX9, "show", "(I)I"⟩
abbrev cX9_writeNumber : ByteArray := prog_11_method_98_code
def yX9_writeNumber : MethodName := ⟨RX9, "writeNumber", "(I)V"⟩
abbrev cX9_output : ByteArray := prog_11_method_99_code
def yX9_output : MethodName := ⟨RX9, "output", "(I)I"⟩
abbrev cX9_undo : ByteArray := prog_11_method_100_code
def yX9_undo : MethodName := ⟨RX9, "undo", "()I"⟩
abbrev cX9_save : ByteArray := prog_11_method_101_code
def yX9_save : MethodName := ⟨RX9, "save", "(I)V"⟩
abbrev cX9_restore : ByteArray := prog_11_method_102_code
def yX9_restore : MethodName := ⟨RX9, "restore", "(I)V"⟩
def RJ9 : String := "java/lang/Math"
def TJ9 : u_T := fun k => match k with
  | _ => ("", "", "", false)
def tyJ9 : Nat → FieldType := fun k => match k with
  | _ => .int
abbrev wsJ90 : List Cond := u_ws RJ9 TJ9 0
theorem nmJ9 : ∀ a, a < 0 → ∀ b, b < 0 → a ≠ b → (TJ9 a).2.1 ≠ (TJ9 b).2.1 := by decide +kernel
theorem tyJ9_ok : ∀ k, k < 0 → parseFieldDescriptor (TJ9 k).2.2.1 = some (tyJ9 k) := by decide +kernel
abbrev cJ9_max_7cf53 : ByteArray := prog_16_method_65_code
def yJ9_max_7cf53 : MethodName := ⟨RJ9, "max", "(II)I"⟩
abbrev cJ9_min_7cf53 : ByteArray := prog_16_method_69_code
def yJ9_min_7cf53 : MethodName := ⟨RJ9, "min", "(II)I"⟩
def RJ0 : String := "java/lang/String"
def TJ0 : u_T := fun k => match k with
  | _ => ("", "", "", false)
def tyJ0 : Nat → FieldType := fun k => match k with
  | _ => .int
abbrev wsJ00 : List Cond := u_ws RJ0 TJ0 0
theorem nmJ0 : ∀ a, a < 0 → ∀ b, b < 0 → a ≠ b → (TJ0 a).2.1 ≠ (TJ0 b).2.1 := by decide +kernel
theorem tyJ0_ok : ∀ k, k < 0 → parseFieldDescriptor (TJ0 k).2.2.1 = some (tyJ0 k) := by decide +kernel
abbrev cJ0_length_8abf5 : ByteArray := prog_18_method_54_code
def yJ0_length_8abf5 : MethodName := ⟨RJ0, "length", "()I"⟩
abbrev cJ0_charAt_5068e : ByteArray := prog_18_method_56_code
def yJ0_charAt_5068e : MethodName := ⟨RJ0, "charAt", "(I)C"⟩
abbrev cJ0_coder_7d493 : ByteArray := prog_18_method_152_code
def yJ0_coder_7d493 : MethodName := ⟨RJ0, "coder", "()B"⟩
abbrev cJ0_isLatin1_aae02 : ByteArray := prog_18_method_154_code
def yJ0_isLatin1_aae02 : MethodName := ⟨RJ0, "isLatin1", "()Z"⟩
abbrev cJ0_checkIndex_df160 : ByteArray := prog_18_method_155_code
def yJ0_checkIndex_df160 : MethodName := ⟨RJ0, "checkIndex", "(II)V"⟩
def RJ1 : String := "java/lang/StringLatin1"
def TJ1 : u_T := fun k => match k with
  | _ => ("", "", "", false)
def tyJ1 : Nat → FieldType := fun k => match k with
  | _ => .int
abbrev wsJ10 : List Cond := u_ws RJ1 TJ1 0
theorem nmJ1 : ∀ a, a < 0 → ∀ b, b < 0 → a ≠ b → (TJ1 a).2.1 ≠ (TJ1 b).2.1 := by decide +kernel
theorem tyJ1_ok : ∀ k, k < 0 → parseFieldDescriptor (TJ1 k).2.2.1 = some (tyJ1 k) := by decide +kernel
abbrev cJ1_charAt_3b067 : ByteArray := prog_19_method_2_code
def yJ1_charAt_3b067 : MethodName := ⟨RJ1, "charAt", "([BI)C"⟩
def RJ2 : String := "java/lang/StringUTF16"
def TJ2 : u_T := fun k => match k with
  | _ => ("", "", "", false)
def tyJ2 : Nat → FieldType := fun k => match k with
  | _ => .int
abbrev wsJ20 : List Cond := u_ws RJ2 TJ2 0
theorem nmJ2 : ∀ a, a < 0 → ∀ b, b < 0 → a ≠ b → (TJ2 a).2.1 ≠ (TJ2 b).2.1 := by decide +kernel
theorem tyJ2_ok : ∀ k, k < 0 → parseFieldDescriptor (TJ2 k).2.2.1 = some (tyJ2 k) := by decide +kernel
abbrev cJ2_getChar_3b067 : ByteArray := prog_20_method_5_code
def yJ2_getChar_3b067 : MethodName := ⟨RJ2, "getChar", "([BI)C"⟩
abbrev cJ2_length_9d52b : ByteArray := prog_20_method_6_code
def yJ2_length_9d52b : MethodName := ⟨RJ2, "length", "([B)I"⟩
abbrev cJ2_charAt_3b067 : ByteArray := prog_20_method_83_code
def yJ2_charAt_3b067 : MethodName := ⟨RJ2, "charAt", "([BI)C"⟩
abbrev cJ2_checkIndex_2214a : ByteArray := prog_20_method_91_code
def yJ2_checkIndex_2214a : MethodName := ⟨RJ2, "checkIndex", "(I[B)V"⟩
def RJ10 : String := "java/lang/System"
def TJ10 : u_T := fun k => match k with
  | _ => ("", "", "", false)
def tyJ10 : Nat → FieldType := fun k => match k with
  | _ => .int
abbrev wsJ100 : List Cond := u_ws RJ10 TJ10 0
theorem nmJ10 : ∀ a, a < 0 → ∀ b, b < 0 → a ≠ b → (TJ10 a).2.1 ≠ (TJ10 b).2.1 := by decide +kernel
theorem tyJ10_ok : ∀ k, k < 0 → parseFieldDescriptor (TJ10 k).2.2.1 = some (tyJ10 k) := by decide +kernel
def RJ3 : String := "jdk/internal/util/Preconditions"
def TJ3 : u_T := fun k => match k with
  | _ => ("", "", "", false)
def tyJ3 : Nat → FieldType := fun k => match k with
  | _ => .int
abbrev wsJ30 : List Cond := u_ws RJ3 TJ3 0
theorem nmJ3 : ∀ a, a < 0 → ∀ b, b < 0 → a ≠ b → (TJ3 a).2.1 ≠ (TJ3 b).2.1 := by decide +kernel
theorem tyJ3_ok : ∀ k, k < 0 → parseFieldDescriptor (TJ3 k).2.2.1 = some (tyJ3 k) := by decide +kernel
abbrev cJ3_checkIndex_8e157 : ByteArray := prog_23_method_11_code
def yJ3_checkIndex_8e157 : MethodName := ⟨RJ3, "checkIndex", "(IILjava/util/function/BiFunction;)I"⟩
def RL : String := "GhostLayersLaw"
abbrev cL_appendText : ByteArray := method_3_code
def yL_appendText : MethodName := ⟨RL, "appendText", "(LGhostLayers;I[J)I"⟩
abbrev cL_truncateText : ByteArray := method_4_code
def yL_truncateText : MethodName := ⟨RL, "truncateText", "(LGhostLayers;I[J)I"⟩
abbrev cL_addClient : ByteArray := method_5_code
def yL_addClient : MethodName := ⟨RL, "addClient", "(LGhostLayers;I[J)I"⟩
abbrev cL_setWeight : ByteArray := method_6_code
def yL_setWeight : MethodName := ⟨RL, "setWeight", "(LGhostLayers;II[J)I"⟩
abbrev cL_set : ByteArray := method_7_code
def yL_set : MethodName := ⟨RL, "set", "(LGhostLayers;II[J)I"⟩
abbrev cL_shape : ByteArray := method_8_code
def yL_shape : MethodName := ⟨RL, "shape", "(LGhostLayers;II[J)I"⟩
abbrev cL_count : ByteArray := method_9_code
def yL_count : MethodName := ⟨RL, "count", "(LGhostLayers;I[J)I"⟩
abbrev cL_client : ByteArray := method_10_code
def yL_client : MethodName := ⟨RL, "client", "(LGhostLayers;II[J)I"⟩
abbrev cL_block : ByteArray := method_11_code
def yL_block : MethodName := ⟨RL, "block", "(LGhostLayers;II[J)I"⟩
abbrev cL_at : ByteArray := method_12_code
def yL_at : MethodName := ⟨RL, "at", "(LGhostLayers;II[J)I"⟩
abbrev cL_read : ByteArray := method_13_code
def yL_read : MethodName := ⟨RL, "read", "(LGhostLayers;II[J)I"⟩
abbrev cL_write : ByteArray := method_14_code
def yL_write : MethodName := ⟨RL, "write", "(LGhostLayers;III[J)I"⟩
abbrev cL_flush : ByteArray := method_15_code
def yL_flush : MethodName := ⟨RL, "flush", "(LGhostLayers;I[J)I"⟩
abbrev cL_forget : ByteArray := method_16_code
def yL_forget : MethodName := ⟨RL, "forget", "(LGhostLayers;I[J)I"⟩
abbrev cL_share : ByteArray := method_17_code
def yL_share : MethodName := ⟨RL, "share", "(LGhostLayers;I[D)I"⟩
abbrev cL_order : ByteArray := method_18_code
def yL_order : MethodName := ⟨RL, "order", "(LGhostLayers;I[J)I"⟩
abbrev cL_ages : ByteArray := method_19_code
def yL_ages : MethodName := ⟨RL, "ages", "(LGhostLayers;I[J)I"⟩
abbrev cL_ownedAt : ByteArray := method_20_code
def yL_ownedAt : MethodName := ⟨RL, "ownedAt", "(LGhostLayers;III[J)I"⟩
abbrev cL_excess : ByteArray := method_21_code
def yL_excess : MethodName := ⟨RL, "excess", "(LGhostLayers;I[D)I"⟩
abbrev cL_toScan : ByteArray := method_22_code
def yL_toScan : MethodName := ⟨RL, "toScan", "(LGhostLayers;II[J)I"⟩
abbrev cL_rank : ByteArray := method_23_code
def yL_rank : MethodName := ⟨RL, "rank", "(LGhostLayers;I[J)I"⟩
abbrev cL_between : ByteArray := method_24_code
def yL_between : MethodName := ⟨RL, "between", "(LGhostLayers;III[J)I"⟩
abbrev cL_longest : ByteArray := method_25_code
def yL_longest : MethodName := ⟨RL, "longest", "(LGhostLayers;I[J)I"⟩
abbrev cL_stale : ByteArray := method_26_code
def yL_stale : MethodName := ⟨RL, "stale", "(LGhostLayers;I[J)I"⟩
abbrev cL_wouldBe : ByteArray := method_27_code
def yL_wouldBe : MethodName := ⟨RL, "wouldBe", "(LGhostLayers;III[J)I"⟩
abbrev cL_ahead : ByteArray := method_28_code
def yL_ahead : MethodName := ⟨RL, "ahead", "(LGhostLayers;IIIII[J)I"⟩
abbrev cL_bestLength : ByteArray := method_29_code
def yL_bestLength : MethodName := ⟨RL, "bestLength", "(LGhostLayers;IIII[J)I"⟩
abbrev cL_show : ByteArray := method_30_code
def yL_show : MethodName := ⟨RL, "show", "(LGhostLayers;I[J)I"⟩
abbrev cL_save : ByteArray := method_31_code
def yL_save : MethodName := ⟨RL, "save", "(LGhostLayers;I)I"⟩
abbrev cL_restore : ByteArray := method_32_code
def yL_restore : MethodName := ⟨RL, "restore", "(LGhostLayers;I)I"⟩
abbrev cL_law : ByteArray := code
def yL_law : MethodName := ⟨RL, "law", "([I)Z"⟩
def wsJ0_coder_7d493 : List Cond := .code yJ0_coder_7d493 cJ0_coder_7d493 1 (some .byte) :: ([.fieldLink RJ0 38 "java/lang/String" "COMPACT_STRINGS" "Z", .fieldLink RJ0 15 "java/lang/String" "coder" "B"])
def wsJ0_length_8abf5 : List Cond := .code yJ0_length_8abf5 cJ0_length_8abf5 1 (some .int) :: ([.fieldLink RJ0 9 "java/lang/String" "value" "[B", .methodLink RJ0 335 yJ0_coder_7d493, .instanceMethod yJ0_coder_7d493, .selects RJ0 yJ0_coder_7d493 yJ0_coder_7d493, .initialized RJ0, .code yJ0_coder_7d493 cJ0_coder_7d493 1 (some .byte), .fieldLink RJ0 38 "java/lang/String" "COMPACT_STRINGS" "Z", .fieldLink RJ0 15 "java/lang/String" "coder" "B"])
def wsJ0_isLatin1_aae02 : List Cond := .code yJ0_isLatin1_aae02 cJ0_isLatin1_aae02 1 (some .boolean) :: ([.fieldLink RJ0 38 "java/lang/String" "COMPACT_STRINGS" "Z", .fieldLink RJ0 15 "java/lang/String" "coder" "B"])
def wsJ3_checkIndex_8e157 : List Cond := .code yJ3_checkIndex_8e157 cJ3_checkIndex_8e157 3 (some .int) :: ([])
def wsJ0_checkIndex_df160 : List Cond := .code yJ0_checkIndex_df160 cJ0_checkIndex_df160 2 none :: ([.fieldLink RJ0 1053 "jdk/internal/util/Preconditions" "SIOOBE_FORMATTER" "Ljava/util/function/BiFunction;", .methodLink RJ0 1059 yJ3_checkIndex_8e157, .static yJ3_checkIndex_8e157, .initialized RJ3, .code yJ3_checkIndex_8e157 cJ3_checkIndex_8e157 3 (some .int)])
def wsJ1_charAt_3b067 : List Cond := .code yJ1_charAt_3b067 cJ1_charAt_3b067 2 (some .char) :: ([.methodLink RJ1 9 yJ0_checkIndex_df160, .static yJ0_checkIndex_df160, .initialized RJ0, .code yJ0_checkIndex_df160 cJ0_checkIndex_df160 2 none, .fieldLink RJ0 1053 "jdk/internal/util/Preconditions" "SIOOBE_FORMATTER" "Ljava/util/function/BiFunction;", .methodLink RJ0 1059 yJ3_checkIndex_8e157, .static yJ3_checkIndex_8e157, .initialized RJ3, .code yJ3_checkIndex_8e157 cJ3_checkIndex_8e157 3 (some .int)])
def wsJ2_length_9d52b : List Cond := .code yJ2_length_9d52b cJ2_length_9d52b 1 (some .int) :: ([])
def wsJ2_checkIndex_2214a : List Cond := .code yJ2_checkIndex_2214a cJ2_checkIndex_2214a 2 none :: ([.methodLink RJ2 48 yJ2_length_9d52b, .static yJ2_length_9d52b, .initialized RJ2, .code yJ2_length_9d52b cJ2_length_9d52b 1 (some .int), .methodLink RJ2 414 yJ0_checkIndex_df160, .static yJ0_checkIndex_df160, .initialized RJ0, .code yJ0_checkIndex_df160 cJ0_checkIndex_df160 2 none, .fieldLink RJ0 1053 "jdk/internal/util/Preconditions" "SIOOBE_FORMATTER" "Ljava/util/function/BiFunction;", .methodLink RJ0 1059 yJ3_checkIndex_8e157, .static yJ3_checkIndex_8e157, .initialized RJ3, .code yJ3_checkIndex_8e157 cJ3_checkIndex_8e157 3 (some .int)])
def wsJ2_getChar_3b067 : List Cond := .code yJ2_getChar_3b067 cJ2_getChar_3b067 2 (some .char) :: ([.fieldLink RJ2 44 "java/lang/StringUTF16" "$assertionsDisabled" "Z", .fieldLink RJ2 59 "java/lang/StringUTF16" "HI_BYTE_SHIFT" "I", .fieldLink RJ2 63 "java/lang/StringUTF16" "LO_BYTE_SHIFT" "I", .methodLink RJ2 48 yJ2_length_9d52b, .static yJ2_length_9d52b, .initialized RJ2, .code yJ2_length_9d52b cJ2_length_9d52b 1 (some .int)])
def wsJ2_charAt_3b067 : List Cond := .code yJ2_charAt_3b067 cJ2_charAt_3b067 2 (some .char) :: ([.methodLink RJ2 67 yJ2_checkIndex_2214a, .static yJ2_checkIndex_2214a, .initialized RJ2, .code yJ2_checkIndex_2214a cJ2_checkIndex_2214a 2 none, .methodLink RJ2 48 yJ2_length_9d52b, .static yJ2_length_9d52b, .code yJ2_length_9d52b cJ2_length_9d52b 1 (some .int), .methodLink RJ2 414 yJ0_checkIndex_df160, .static yJ0_checkIndex_df160, .initialized RJ0, .code yJ0_checkIndex_df160 cJ0_checkIndex_df160 2 none, .fieldLink RJ0 1053 "jdk/internal/util/Preconditions" "SIOOBE_FORMATTER" "Ljava/util/function/BiFunction;", .methodLink RJ0 1059 yJ3_checkIndex_8e157, .static yJ3_checkIndex_8e157, .initialized RJ3, .code yJ3_checkIndex_8e157 cJ3_checkIndex_8e157 3 (some .int), .methodLink RJ2 71 yJ2_getChar_3b067, .static yJ2_getChar_3b067, .code yJ2_getChar_3b067 cJ2_getChar_3b067 2 (some .char), .fieldLink RJ2 44 "java/lang/StringUTF16" "$assertionsDisabled" "Z", .fieldLink RJ2 59 "java/lang/StringUTF16" "HI_BYTE_SHIFT" "I", .fieldLink RJ2 63 "java/lang/StringUTF16" "LO_BYTE_SHIFT" "I"])
def wsJ0_charAt_5068e_r1 : List Cond := [Cond.fieldLink RJ0 9 "java/lang/String" "value" "[B", Cond.methodLink RJ0 492 yJ0_isLatin1_aae02, Cond.instanceMethod yJ0_isLatin1_aae02, Cond.selects RJ0 yJ0_isLatin1_aae02 yJ0_isLatin1_aae02, Cond.initialized RJ0, Cond.code yJ0_isLatin1_aae02 cJ0_isLatin1_aae02 1 (some .boolean), Cond.fieldLink RJ0 38 "java/lang/String" "COMPACT_STRINGS" "Z", Cond.fieldLink RJ0 15 "java/lang/String" "coder" "B", Cond.methodLink RJ0 495 yJ1_charAt_3b067, Cond.static yJ1_charAt_3b067, Cond.initialized RJ1, Cond.code yJ1_charAt_3b067 cJ1_charAt_3b067 2 (some .char), Cond.methodLink RJ1 9 yJ0_checkIndex_df160, Cond.static yJ0_checkIndex_df160, Cond.code yJ0_checkIndex_df160 cJ0_checkIndex_df160 2 none, Cond.fieldLink RJ0 1053 "jdk/internal/util/Preconditions" "SIOOBE_FORMATTER" "Ljava/util/function/BiFunction;", Cond.methodLink RJ0 1059 yJ3_checkIndex_8e157, Cond.static yJ3_checkIndex_8e157, Cond.initialized RJ3, Cond.code yJ3_checkIndex_8e157 cJ3_checkIndex_8e157 3 (some .int), Cond.methodLink RJ0 498 yJ2_charAt_3b067, Cond.static yJ2_charAt_3b067, Cond.initialized RJ2, Cond.code yJ2_charAt_3b067 cJ2_charAt_3b067 2 (some .char)]
def wsJ0_charAt_5068e_r2 : List Cond := [Cond.methodLink RJ2 67 yJ2_checkIndex_2214a, Cond.static yJ2_checkIndex_2214a, Cond.code yJ2_checkIndex_2214a cJ2_checkIndex_2214a 2 none, Cond.methodLink RJ2 48 yJ2_length_9d52b, Cond.static yJ2_length_9d52b, Cond.code yJ2_length_9d52b cJ2_length_9d52b 1 (some .int), Cond.methodLink RJ2 414 yJ0_checkIndex_df160, Cond.methodLink RJ2 71 yJ2_getChar_3b067, Cond.static yJ2_getChar_3b067, Cond.code yJ2_getChar_3b067 cJ2_getChar_3b067 2 (some .char), Cond.fieldLink RJ2 44 "java/lang/StringUTF16" "$assertionsDisabled" "Z", Cond.fieldLink RJ2 59 "java/lang/StringUTF16" "HI_BYTE_SHIFT" "I", Cond.fieldLink RJ2 63 "java/lang/StringUTF16" "LO_BYTE_SHIFT" "I"]
def wsJ0_charAt_5068e : List Cond := .code yJ0_charAt_5068e cJ0_charAt_5068e 2 (some .char) :: ((wsJ0_charAt_5068e_r1 ++ wsJ0_charAt_5068e_r2))
def wsJ9_max_7cf53 : List Cond := .code yJ9_max_7cf53 cJ9_max_7cf53 2 (some .int) :: ([])
def wsJ9_min_7cf53 : List Cond := .code yJ9_min_7cf53 cJ9_min_7cf53 2 (some .int) :: ([])
def wsL_law0_r1 : List Cond := [Cond.classLink RL 8 RX8, Cond.instantiable RX8 6, Cond.initialized RX8, Cond.classLink RL 115 RX9, Cond.instantiable RX9 23, Cond.initialized RX9, Cond.arrayClass .long, Cond.arrayClass .double, Cond.methodLink RL 114 yX8_init, Cond.instanceMethod yX8_init, Cond.code yX8_init cX8_init 1 none, Cond.methodLink RX8 1 objectInit, Cond.instanceMethod objectInit, Cond.code objectInit ⟨#[0xb1]⟩ 1 none, Cond.classLink RX8 7 RX7, Cond.instantiable RX7 13, Cond.initialized RX7, Cond.fieldLink RX8 10 "GhostLayers" "trace" "LGhostLayers$Trace;", Cond.classLink RX8 16 RX4, Cond.instantiable RX4 2, Cond.initialized RX4, Cond.fieldLink RX8 19 "GhostLayers" "page" "LGhostLayers$Page;", Cond.classLink RX8 23 RX1, Cond.instantiable RX1 15]
def wsL_law0_r2 : List Cond := [Cond.initialized RX1, Cond.fieldLink RX8 26 "GhostLayers" "now" "LGhostLayers$Cache;", Cond.fieldLink RX8 30 "GhostLayers" "trial" "LGhostLayers$Cache;", Cond.classLink RX8 33 RX3, Cond.instantiable RX3 3, Cond.initialized RX3, Cond.fieldLink RX8 36 "GhostLayers" "past" "LGhostLayers$History;", Cond.fieldLink RX8 40 "GhostLayers" "saved" "[LGhostLayers$Cache;", Cond.methodLink RX8 9 yX7_init, Cond.instanceMethod yX7_init, Cond.code yX7_init cX7_init 1 none, Cond.methodLink RX7 3 objectInit, Cond.arrayClass .int, Cond.fieldLink RX7 9 "GhostLayers$Trace" "text" "[I", Cond.fieldLink RX7 15 "GhostLayers$Trace" "verbs" "[I", Cond.fieldLink RX7 18 "GhostLayers$Trace" "clients" "[I", Cond.fieldLink RX7 21 "GhostLayers$Trace" "firsts" "[I", Cond.fieldLink RX7 24 "GhostLayers$Trace" "seconds" "[I", Cond.fieldLink RX7 27 "GhostLayers$Trace" "errorPlace" "I", Cond.methodLink RX8 18 yX4_init, Cond.instanceMethod yX4_init, Cond.code yX4_init cX4_init 1 none, Cond.methodLink RX4 3 objectInit, Cond.fieldLink RX4 11 "GhostLayers$Page" "bytes" "[I"]
def wsL_law0_r3 : List Cond := [Cond.methodLink RX8 25 yX1_init, Cond.instanceMethod yX1_init, Cond.code yX1_init cX1_init 2 none, Cond.methodLink RX1 3 objectInit, Cond.classLink RX1 9 RX0, Cond.instantiable RX0 8, Cond.initialized RX0, Cond.fieldLink RX1 12 "GhostLayers$Cache" "blocks" "LGhostLayers$Blocks;", Cond.classLink RX1 18 RX6, Cond.instantiable RX6 11, Cond.initialized RX6, Cond.fieldLink RX1 21 "GhostLayers$Cache" "tally" "LGhostLayers$Tally;", Cond.classLink RX1 25 RX5, Cond.instantiable RX5 2, Cond.initialized RX5, Cond.fieldLink RX1 28 "GhostLayers$Cache" "recent" "LGhostLayers$Row;", Cond.fieldLink RX1 32 "GhostLayers$Cache" "frequent" "LGhostLayers$Row;", Cond.fieldLink RX1 35 "GhostLayers$Cache" "lower" "LGhostLayers$Row;", Cond.fieldLink RX1 38 "GhostLayers$Cache" "recentGhosts" "LGhostLayers$Row;", Cond.fieldLink RX1 41 "GhostLayers$Cache" "frequentGhosts" "LGhostLayers$Row;", Cond.fieldLink RX1 44 "GhostLayers$Cache" "upperUnits" "[I", Cond.classLink RX1 48 RX2, Cond.fieldLink RX1 50 "GhostLayers$Cache" "clients" "[LGhostLayers$Client;", Cond.instantiable RX2 8]
def wsL_law0_r4 : List Cond := [Cond.initialized RX2, Cond.fieldLink RX1 55 "GhostLayers$Cache" "length" "I", Cond.fieldLink RX1 59 "GhostLayers$Cache" "limit" "I", Cond.fieldLink RX1 62 "GhostLayers$Cache" "up" "I", Cond.fieldLink RX1 65 "GhostLayers$Cache" "low" "I", Cond.methodLink RX1 11 yX0_init, Cond.instanceMethod yX0_init, Cond.code yX0_init cX0_init 2 none, Cond.methodLink RX0 3 objectInit, Cond.fieldLink RX0 9 "GhostLayers$Blocks" "stored" "[I", Cond.fieldLink RX0 15 "GhostLayers$Blocks" "value" "[I", Cond.fieldLink RX0 18 "GhostLayers$Blocks" "owner" "[I", Cond.fieldLink RX0 21 "GhostLayers$Blocks" "since" "[I", Cond.fieldLink RX0 24 "GhostLayers$Blocks" "list" "[I", Cond.fieldLink RX0 27 "GhostLayers$Blocks" "ghostList" "[I", Cond.methodLink RX1 20 yX6_init, Cond.instanceMethod yX6_init, Cond.code yX6_init cX6_init 1 none, Cond.methodLink RX6 3 objectInit, Cond.fieldLink RX6 9 "GhostLayers$Tally" "demotedBlock" "I", Cond.fieldLink RX6 15 "GhostLayers$Tally" "leftBlock" "I", Cond.methodLink RX1 27 yX5_init, Cond.instanceMethod yX5_init, Cond.code yX5_init cX5_init 1 none]
def wsL_law0_r5 : List Cond := [Cond.methodLink RX5 3 objectInit, Cond.fieldLink RX5 9 "GhostLayers$Row" "blocks" "[I", Cond.methodLink RX1 54 yX2_init, Cond.instanceMethod yX2_init, Cond.code yX2_init cX2_init 1 none, Cond.methodLink RX2 3 objectInit, Cond.fieldLink RX2 9 "GhostLayers$Client" "last" "I", Cond.methodLink RX8 35 yX3_init, Cond.instanceMethod yX3_init, Cond.code yX3_init cX3_init 2 none, Cond.methodLink RX3 3 objectInit, Cond.classLink RX3 9 RX1, Cond.fieldLink RX3 11 "GhostLayers$History" "states" "[LGhostLayers$Cache;", Cond.methodLink RX3 17 yX1_init, Cond.methodLink RL 117 yX9_init, Cond.instanceMethod yX9_init, Cond.code yX9_init cX9_init 2 none, Cond.methodLink RX9 1 objectInit, Cond.fieldLink RX9 7 "GhostLayersModel" "state" "[I", Cond.fieldLink RX9 13 "GhostLayersModel" "aside" "[I", Cond.fieldLink RX9 16 "GhostLayersModel" "past" "[I", Cond.fieldLink RX9 19 "GhostLayersModel" "saved" "[I", Cond.arrayClass .boolean, Cond.fieldLink RX9 22 "GhostLayersModel" "isSaved" "[Z"]
def wsL_law0_r6 : List Cond := [Cond.fieldLink RX9 26 "GhostLayersModel" "text" "[I", Cond.fieldLink RX9 29 "GhostLayersModel" "commands" "[I", Cond.fieldLink RX9 32 "GhostLayersModel" "errorPosition" "I", Cond.fieldLink RX9 36 "GhostLayersModel" "output" "[I", Cond.methodLink RX9 39 yX9_put, Cond.instanceMethod yX9_put, Cond.selects RX9 yX9_put yX9_put, Cond.code yX9_put cX9_put 4 none, Cond.methodLink RL 118 yL_appendText, Cond.static yL_appendText, Cond.initialized RL, Cond.codeWith yL_appendText cL_appendText 4 (some .int) [(0, 9, 12, 13)], Cond.classLink RL 13 "java/lang/IllegalStateException", Cond.methodLink RL 7 yX8_appendText, Cond.instanceMethod yX8_appendText, Cond.selects RX8 yX8_appendText yX8_appendText, Cond.code yX8_appendText cX8_appendText 3 (some .int), Cond.classLink RX8 48 "java/lang/IllegalStateException", Cond.initialized "java/lang/IllegalStateException", Cond.fieldLink RX8 44 "GhostLayers$Trace" "size" "I", Cond.methodLink RX8 55 yX7_addByte, Cond.instanceMethod yX7_addByte, Cond.selects RX7 yX7_addByte yX7_addByte, Cond.code yX7_addByte cX7_addByte 2 none]
def wsL_law0_r7 : List Cond := [Cond.fieldLink RX7 31 "GhostLayers$Trace" "size" "I", Cond.methodLink RL 123 yX9_appendText, Cond.instanceMethod yX9_appendText, Cond.selects RX9 yX9_appendText yX9_appendText, Cond.code yX9_appendText cX9_appendText 3 (some .int), Cond.fieldLink RX9 43 "GhostLayersModel" "thrown" "I", Cond.fieldLink RX9 57 "GhostLayersModel" "textLength" "I", Cond.methodLink RX9 60 yX9_fail, Cond.instanceMethod yX9_fail, Cond.selects RX9 yX9_fail yX9_fail, Cond.code yX9_fail cX9_fail 2 (some .int), Cond.methodLink RL 124 yX9_thrown, Cond.instanceMethod yX9_thrown, Cond.selects RX9 yX9_thrown yX9_thrown, Cond.code yX9_thrown cX9_thrown 1 (some .int), Cond.methodLink RL 128 yL_truncateText, Cond.static yL_truncateText, Cond.codeWith yL_truncateText cL_truncateText 4 (some .int) [(0, 9, 12, 18)], Cond.classLink RL 18 "java/lang/IllegalArgumentException", Cond.methodLink RL 15 yX8_truncateText, Cond.instanceMethod yX8_truncateText, Cond.selects RX8 yX8_truncateText yX8_truncateText, Cond.code yX8_truncateText cX8_truncateText 2 (some .int), Cond.methodLink RX8 59 yX8_needRange]
def wsL_law0_r8 : List Cond := [Cond.static yX8_needRange, Cond.code yX8_needRange cX8_needRange 3 none, Cond.classLink RX8 230 "java/lang/IllegalArgumentException", Cond.initialized "java/lang/IllegalArgumentException", Cond.methodLink RL 130 yX9_truncateText, Cond.instanceMethod yX9_truncateText, Cond.selects RX9 yX9_truncateText yX9_truncateText, Cond.code yX9_truncateText cX9_truncateText 2 (some .int), Cond.methodLink RX9 53 yX9_isBetween, Cond.static yX9_isBetween, Cond.code yX9_isBetween cX9_isBetween 3 (some .boolean), Cond.methodLink RL 131 yX8_runTrace, Cond.instanceMethod yX8_runTrace, Cond.selects RX8 yX8_runTrace yX8_runTrace, Cond.code yX8_runTrace cX8_runTrace 5 (some .int), Cond.fieldLink RX8 71 "GhostLayers$Cache" "tally" "LGhostLayers$Tally;", Cond.fieldLink RX8 75 "GhostLayers$Tally" "time" "I", Cond.fieldLink RX8 80 "GhostLayers$Trace" "commandCount" "I", Cond.methodLink RX8 63 yX7_parse, Cond.instanceMethod yX7_parse, Cond.selects RX7 yX7_parse yX7_parse, Cond.code yX7_parse cX7_parse 2 (some .boolean), Cond.fieldLink RX7 34 "GhostLayers$Trace" "commandCount" "I", Cond.fieldLink RX7 37 "GhostLayers$Trace" "cursor" "I"]
def wsL_law0_r9 : List Cond := [Cond.fieldLink RX7 40 "GhostLayers$Trace" "errorKind" "I", Cond.fieldLink RX7 46 "GhostLayers$Trace" "tokenKind" "I", Cond.methodLink RX7 43 yX7_nextToken, Cond.instanceMethod yX7_nextToken, Cond.selects RX7 yX7_nextToken yX7_nextToken, Cond.code yX7_nextToken cX7_nextToken 2 none, Cond.fieldLink RX7 63 "GhostLayers$Trace" "tokenStart" "I", Cond.methodLink RX7 69 yX7_signAt, Cond.instanceMethod yX7_signAt, Cond.selects RX7 yX7_signAt yX7_signAt, Cond.code yX7_signAt cX7_signAt 2 (some .int), Cond.methodLink RX7 73 yX7_isBlank, Cond.static yX7_isBlank, Cond.code yX7_isBlank cX7_isBlank 1 (some .boolean), Cond.methodLink RX7 77 yX7_isLetter, Cond.static yX7_isLetter, Cond.code yX7_isLetter cX7_isLetter 1 (some .boolean), Cond.methodLink RX7 80 yX7_readWord, Cond.instanceMethod yX7_readWord, Cond.selects RX7 yX7_readWord yX7_readWord, Cond.code yX7_readWord cX7_readWord 1 none, Cond.methodLink RX7 91 yX7_isWord, Cond.instanceMethod yX7_isWord, Cond.selects RX7 yX7_isWord yX7_isWord]
def wsL_law0_r10 : List Cond := [Cond.code yX7_isWord cX7_isWord 4 (some .boolean), Cond.methodLink RX7 101 yJ0_length_8abf5, Cond.instanceMethod yJ0_length_8abf5, Cond.selects RJ0 yJ0_length_8abf5 yJ0_length_8abf5, Cond.initialized RJ0, Cond.code yJ0_length_8abf5 cJ0_length_8abf5 1 (some .int), Cond.fieldLink RJ0 9 "java/lang/String" "value" "[B", Cond.methodLink RJ0 335 yJ0_coder_7d493, Cond.instanceMethod yJ0_coder_7d493, Cond.selects RJ0 yJ0_coder_7d493 yJ0_coder_7d493, Cond.code yJ0_coder_7d493 cJ0_coder_7d493 1 (some .byte), Cond.fieldLink RJ0 38 "java/lang/String" "COMPACT_STRINGS" "Z", Cond.fieldLink RJ0 15 "java/lang/String" "coder" "B", Cond.methodLink RX7 107 yJ0_charAt_5068e, Cond.instanceMethod yJ0_charAt_5068e, Cond.selects RJ0 yJ0_charAt_5068e yJ0_charAt_5068e, Cond.code yJ0_charAt_5068e cJ0_charAt_5068e 2 (some .char), Cond.methodLink RJ0 492 yJ0_isLatin1_aae02, Cond.instanceMethod yJ0_isLatin1_aae02, Cond.selects RJ0 yJ0_isLatin1_aae02 yJ0_isLatin1_aae02, Cond.code yJ0_isLatin1_aae02 cJ0_isLatin1_aae02 1 (some .boolean), Cond.methodLink RJ0 495 yJ1_charAt_3b067, Cond.static yJ1_charAt_3b067, Cond.initialized RJ1]
def wsL_law0_r11 : List Cond := [Cond.code yJ1_charAt_3b067 cJ1_charAt_3b067 2 (some .char), Cond.methodLink RJ1 9 yJ0_checkIndex_df160, Cond.static yJ0_checkIndex_df160, Cond.code yJ0_checkIndex_df160 cJ0_checkIndex_df160 2 none, Cond.fieldLink RJ0 1053 "jdk/internal/util/Preconditions" "SIOOBE_FORMATTER" "Ljava/util/function/BiFunction;", Cond.methodLink RJ0 1059 yJ3_checkIndex_8e157, Cond.static yJ3_checkIndex_8e157, Cond.initialized RJ3, Cond.code yJ3_checkIndex_8e157 cJ3_checkIndex_8e157 3 (some .int), Cond.methodLink RJ0 498 yJ2_charAt_3b067, Cond.static yJ2_charAt_3b067, Cond.initialized RJ2, Cond.code yJ2_charAt_3b067 cJ2_charAt_3b067 2 (some .char), Cond.methodLink RJ2 67 yJ2_checkIndex_2214a, Cond.static yJ2_checkIndex_2214a, Cond.code yJ2_checkIndex_2214a cJ2_checkIndex_2214a 2 none, Cond.methodLink RJ2 48 yJ2_length_9d52b, Cond.static yJ2_length_9d52b, Cond.code yJ2_length_9d52b cJ2_length_9d52b 1 (some .int), Cond.methodLink RJ2 414 yJ0_checkIndex_df160, Cond.methodLink RJ2 71 yJ2_getChar_3b067, Cond.static yJ2_getChar_3b067, Cond.code yJ2_getChar_3b067 cJ2_getChar_3b067 2 (some .char), Cond.fieldLink RJ2 44 "java/lang/StringUTF16" "$assertionsDisabled" "Z"]
def wsL_law0_r12 : List Cond := [Cond.fieldLink RJ2 59 "java/lang/StringUTF16" "HI_BYTE_SHIFT" "I", Cond.fieldLink RJ2 63 "java/lang/StringUTF16" "LO_BYTE_SHIFT" "I", Cond.methodLink RX7 83 yX7_isDigit, Cond.static yX7_isDigit, Cond.code yX7_isDigit cX7_isDigit 1 (some .boolean), Cond.methodLink RX7 86 yX7_readNumber, Cond.instanceMethod yX7_readNumber, Cond.selects RX7 yX7_readNumber yX7_readNumber, Cond.code yX7_readNumber cX7_readNumber 1 none, Cond.fieldLink RX7 66 "GhostLayers$Trace" "tokenNumber" "I", Cond.methodLink RX7 111 Lib.Math.min.name, Cond.static Lib.Math.min.name, Cond.initialized "java/lang/Math", Cond.code Lib.Math.min.name Lib.Math.min.code 2 (some .int), Cond.methodLink RX7 49 yX7_parseCommand, Cond.instanceMethod yX7_parseCommand, Cond.selects RX7 yX7_parseCommand yX7_parseCommand, Cond.code yX7_parseCommand cX7_parseCommand 5 none, Cond.methodLink RX7 52 yX7_fail, Cond.instanceMethod yX7_fail, Cond.selects RX7 yX7_fail yX7_fail, Cond.code yX7_fail cX7_fail 2 none, Cond.methodLink RX7 56 yX7_takeNumber, Cond.instanceMethod yX7_takeNumber]
def wsL_law0_r13 : List Cond := [Cond.selects RX7 yX7_takeNumber yX7_takeNumber, Cond.code yX7_takeNumber cX7_takeNumber 4 (some .int), Cond.methodLink RX7 60 yX7_takeSemicolon, Cond.instanceMethod yX7_takeSemicolon, Cond.selects RX7 yX7_takeSemicolon yX7_takeSemicolon, Cond.code yX7_takeSemicolon cX7_takeSemicolon 1 none, Cond.methodLink RX8 67 yX3_keep, Cond.instanceMethod yX3_keep, Cond.selects RX3 yX3_keep yX3_keep, Cond.code yX3_keep cX3_keep 3 none, Cond.fieldLink RX3 18 "GhostLayers$History" "next" "I", Cond.fieldLink RX3 26 "GhostLayers$History" "count" "I", Cond.methodLink RX3 29 Lib.Math.min.name, Cond.methodLink RX3 22 yX1_copyFrom, Cond.instanceMethod yX1_copyFrom, Cond.selects RX1 yX1_copyFrom yX1_copyFrom, Cond.code yX1_copyFrom cX1_copyFrom 5 none, Cond.fieldLink RX1 68 "GhostLayers$Cache" "clientCount" "I", Cond.fieldLink RX1 82 "GhostLayers$Cache" "target" "I", Cond.methodLink RX1 268 yX0_copyFrom, Cond.instanceMethod yX0_copyFrom, Cond.selects RX0 yX0_copyFrom yX0_copyFrom, Cond.code yX0_copyFrom cX0_copyFrom 2 none, Cond.methodLink RX0 58 arraycopyName]
def wsL_law0_r14 : List Cond := [Cond.native arraycopyName, Cond.static arraycopyName, Cond.initialized "java/lang/System", Cond.fieldLink RX0 30 "GhostLayers$Blocks" "head" "I", Cond.fieldLink RX0 34 "GhostLayers$Blocks" "writtenBack" "I", Cond.methodLink RX1 272 yX6_copyFrom, Cond.instanceMethod yX6_copyFrom, Cond.selects RX6 yX6_copyFrom yX6_copyFrom, Cond.code yX6_copyFrom cX6_copyFrom 2 none, Cond.fieldLink RX6 18 "GhostLayers$Tally" "time" "I", Cond.fieldLink RX6 24 "GhostLayers$Tally" "upperHits" "I", Cond.fieldLink RX6 27 "GhostLayers$Tally" "lowerHits" "I", Cond.fieldLink RX6 30 "GhostLayers$Tally" "misses" "I", Cond.fieldLink RX6 33 "GhostLayers$Tally" "recentGhosts" "I", Cond.fieldLink RX6 36 "GhostLayers$Tally" "frequentGhosts" "I", Cond.fieldLink RX6 39 "GhostLayers$Tally" "demoted" "I", Cond.fieldLink RX6 42 "GhostLayers$Tally" "left" "I", Cond.fieldLink RX6 21 "GhostLayers$Tally" "scans" "I", Cond.methodLink RX1 275 yX5_copyFrom, Cond.instanceMethod yX5_copyFrom, Cond.selects RX5 yX5_copyFrom yX5_copyFrom, Cond.code yX5_copyFrom cX5_copyFrom 3 none, Cond.fieldLink RX5 15 "GhostLayers$Row" "size" "I", Cond.methodLink RX5 19 yX5_blockAt]
def wsL_law0_r15 : List Cond := [Cond.instanceMethod yX5_blockAt, Cond.selects RX5 yX5_blockAt yX5_blockAt, Cond.code yX5_blockAt cX5_blockAt 2 (some .int), Cond.methodLink RX1 71 yX1_clientOf, Cond.instanceMethod yX1_clientOf, Cond.selects RX1 yX1_clientOf yX1_clientOf, Cond.code yX1_clientOf cX1_clientOf 3 (some (.object "GhostLayers$Client")), Cond.methodLink RX1 277 yX2_copyFrom, Cond.instanceMethod yX2_copyFrom, Cond.selects RX2 yX2_copyFrom yX2_copyFrom, Cond.code yX2_copyFrom cX2_copyFrom 2 none, Cond.fieldLink RX2 15 "GhostLayers$Client" "weight" "I", Cond.fieldLink RX2 18 "GhostLayers$Client" "run" "I", Cond.fieldLink RX2 21 "GhostLayers$Client" "reads" "I", Cond.fieldLink RX2 24 "GhostLayers$Client" "writes" "I", Cond.fieldLink RX2 27 "GhostLayers$Client" "upperHits" "I", Cond.fieldLink RX2 30 "GhostLayers$Client" "lowerHits" "I", Cond.fieldLink RX2 33 "GhostLayers$Client" "misses" "I", Cond.methodLink RX8 83 yX8_perform, Cond.instanceMethod yX8_perform, Cond.selects RX8 yX8_perform yX8_perform, Cond.code yX8_perform cX8_perform 7 (some .boolean), Cond.fieldLink RX8 285 "GhostLayers$Trace" "verbs" "[I", Cond.fieldLink RX8 293 "GhostLayers$Trace" "firsts" "[I"]
def wsL_law0_r16 : List Cond := [Cond.fieldLink RX8 296 "GhostLayers$Trace" "seconds" "[I", Cond.fieldLink RX8 147 "GhostLayers$Cache" "blocks" "LGhostLayers$Blocks;", Cond.fieldLink RX8 299 "GhostLayers$Trace" "clients" "[I", Cond.fieldLink RX8 93 "GhostLayers$Cache" "clientCount" "I", Cond.methodLink RX8 289 yX7_partOf, Cond.instanceMethod yX7_partOf, Cond.selects RX7 yX7_partOf yX7_partOf, Cond.code yX7_partOf cX7_partOf 3 (some .int), Cond.methodLink RX8 162 yX0_writeBackSome, Cond.instanceMethod yX0_writeBackSome, Cond.selects RX0 yX0_writeBackSome yX0_writeBackSome, Cond.code yX0_writeBackSome cX0_writeBackSome 4 (some .int), Cond.methodLink RX0 37 yX0_dirtyAt, Cond.instanceMethod yX0_dirtyAt, Cond.selects RX0 yX0_dirtyAt yX0_dirtyAt, Cond.code yX0_dirtyAt cX0_dirtyAt 5 (some .int), Cond.methodLink RX0 45 yX0_isDirty, Cond.instanceMethod yX0_isDirty, Cond.selects RX0 yX0_isDirty yX0_isDirty, Cond.code yX0_isDirty cX0_isDirty 2 (some .boolean), Cond.methodLink RX0 41 yX0_writeBack, Cond.instanceMethod yX0_writeBack, Cond.selects RX0 yX0_writeBack yX0_writeBack, Cond.code yX0_writeBack cX0_writeBack 2 none]
def wsL_law0_r17 : List Cond := [Cond.methodLink RX8 143 yX1_access, Cond.instanceMethod yX1_access, Cond.selects RX1 yX1_access yX1_access, Cond.code yX1_access cX1_access 7 (some .int), Cond.fieldLink RX1 164 "GhostLayers$Client" "run" "I", Cond.fieldLink RX1 167 "GhostLayers$Client" "last" "I", Cond.methodLink RX1 78 yX2_runWith, Cond.instanceMethod yX2_runWith, Cond.selects RX2 yX2_runWith yX2_runWith, Cond.code yX2_runWith cX2_runWith 2 (some .int), Cond.methodLink RX1 170 yX1_kindOf, Cond.instanceMethod yX1_kindOf, Cond.selects RX1 yX1_kindOf yX1_kindOf, Cond.code yX1_kindOf cX1_kindOf 3 (some .int), Cond.methodLink RX1 120 yX0_listOf, Cond.instanceMethod yX0_listOf, Cond.selects RX0 yX0_listOf yX0_listOf, Cond.code yX0_listOf cX0_listOf 2 (some .int), Cond.methodLink RX1 173 yX2_countAccess, Cond.instanceMethod yX2_countAccess, Cond.selects RX2 yX2_countAccess yX2_countAccess, Cond.code yX2_countAccess cX2_countAccess 3 none, Cond.methodLink RX1 177 yX6_countAccess, Cond.instanceMethod yX6_countAccess]
def wsL_law0_r18 : List Cond := [Cond.selects RX6 yX6_countAccess yX6_countAccess, Cond.code yX6_countAccess cX6_countAccess 3 none, Cond.methodLink RX1 178 yX1_makeMostFrequent, Cond.instanceMethod yX1_makeMostFrequent, Cond.selects RX1 yX1_makeMostFrequent yX1_makeMostFrequent, Cond.code yX1_makeMostFrequent cX1_makeMostFrequent 2 none, Cond.methodLink RX1 85 yX1_rowOf, Cond.instanceMethod yX1_rowOf, Cond.selects RX1 yX1_rowOf yX1_rowOf, Cond.code yX1_rowOf cX1_rowOf 2 (some (.object "GhostLayers$Row")), Cond.methodLink RX1 191 yX5_takeOut, Cond.instanceMethod yX5_takeOut, Cond.selects RX5 yX5_takeOut yX5_takeOut, Cond.code yX5_takeOut cX5_takeOut 4 none, Cond.methodLink RX1 194 yX5_putFirst, Cond.instanceMethod yX5_putFirst, Cond.selects RX5 yX5_putFirst yX5_putFirst, Cond.code yX5_putFirst cX5_putFirst 3 none, Cond.methodLink RX1 197 yX0_putUnitIn, Cond.instanceMethod yX0_putUnitIn, Cond.selects RX0 yX0_putUnitIn yX0_putUnitIn, Cond.code yX0_putUnitIn cX0_putUnitIn 3 none, Cond.methodLink RX1 181 yX1_scanInLower, Cond.instanceMethod yX1_scanInLower]
def wsL_law0_r19 : List Cond := [Cond.selects RX1 yX1_scanInLower yX1_scanInLower, Cond.code yX1_scanInLower cX1_scanInLower 2 none, Cond.methodLink RX1 200 yX1_makeRoomInLower, Cond.instanceMethod yX1_makeRoomInLower, Cond.selects RX1 yX1_makeRoomInLower yX1_makeRoomInLower, Cond.code yX1_makeRoomInLower cX1_makeRoomInLower 2 none, Cond.fieldLink RX1 258 "GhostLayers$Tally" "left" "I", Cond.fieldLink RX1 261 "GhostLayers$Tally" "leftBlock" "I", Cond.methodLink RX1 249 yX1_unitToLeave, Cond.instanceMethod yX1_unitToLeave, Cond.selects RX1 yX1_unitToLeave yX1_unitToLeave, Cond.code yX1_unitToLeave cX1_unitToLeave 3 (some .int), Cond.fieldLink RX1 89 "GhostLayers$Row" "size" "I", Cond.methodLink RX1 144 yX5_blockAt, Cond.methodLink RX1 147 yX0_isDirty, Cond.methodLink RX1 252 yX0_writeBack, Cond.methodLink RX1 255 yX0_dropUnit, Cond.instanceMethod yX0_dropUnit, Cond.selects RX0 yX0_dropUnit yX0_dropUnit, Cond.code yX0_dropUnit cX0_dropUnit 2 none, Cond.methodLink RX1 203 yX0_makeCleanUnit, Cond.instanceMethod yX0_makeCleanUnit, Cond.selects RX0 yX0_makeCleanUnit yX0_makeCleanUnit, Cond.code yX0_makeCleanUnit cX0_makeCleanUnit 2 none]
def wsL_law0_r20 : List Cond := [Cond.methodLink RX1 184 yX1_bringToUpper, Cond.instanceMethod yX1_bringToUpper, Cond.selects RX1 yX1_bringToUpper yX1_bringToUpper, Cond.code yX1_bringToUpper cX1_bringToUpper 5 none, Cond.methodLink RX1 135 yX0_ghostListOf, Cond.instanceMethod yX0_ghostListOf, Cond.selects RX0 yX0_ghostListOf yX0_ghostListOf, Cond.code yX0_ghostListOf cX0_ghostListOf 2 (some .int), Cond.methodLink RX1 206 yX1_learnFrom, Cond.instanceMethod yX1_learnFrom, Cond.selects RX1 yX1_learnFrom yX1_learnFrom, Cond.code yX1_learnFrom cX1_learnFrom 5 none, Cond.fieldLink RX1 219 "GhostLayers$Tally" "recentGhosts" "I", Cond.methodLink RX1 221 Lib.Math.max.name, Cond.static Lib.Math.max.name, Cond.code Lib.Math.max.name Lib.Math.max.code 2 (some .int), Cond.methodLink RX1 227 Lib.Math.min.name, Cond.fieldLink RX1 230 "GhostLayers$Tally" "frequentGhosts" "I", Cond.methodLink RX1 209 yX1_loseGhost, Cond.instanceMethod yX1_loseGhost, Cond.selects RX1 yX1_loseGhost yX1_loseGhost, Cond.code yX1_loseGhost cX1_loseGhost 3 none, Cond.methodLink RX1 232 yX0_makeGhostOf, Cond.instanceMethod yX0_makeGhostOf]
def wsL_law0_r21 : List Cond := [Cond.selects RX0 yX0_makeGhostOf yX0_makeGhostOf, Cond.code yX0_makeGhostOf cX0_makeGhostOf 3 none, Cond.methodLink RX1 212 yX1_unitToDemote, Cond.instanceMethod yX1_unitToDemote, Cond.selects RX1 yX1_unitToDemote yX1_unitToDemote, Cond.code yX1_unitToDemote cX1_unitToDemote 6 (some .int), Cond.methodLink RX1 235 yX1_isRecentTooLong, Cond.instanceMethod yX1_isRecentTooLong, Cond.selects RX1 yX1_isRecentTooLong yX1_isRecentTooLong, Cond.code yX1_isRecentTooLong cX1_isRecentTooLong 2 (some .boolean), Cond.methodLink RX1 239 yX1_addOwners, Cond.instanceMethod yX1_addOwners, Cond.selects RX1 yX1_addOwners yX1_addOwners, Cond.code yX1_addOwners cX1_addOwners 4 none, Cond.methodLink RX1 129 yX0_ownerOf, Cond.instanceMethod yX0_ownerOf, Cond.selects RX0 yX0_ownerOf yX0_ownerOf, Cond.code yX0_ownerOf cX0_ownerOf 2 (some .int), Cond.methodLink RX1 112 yX1_sumOfWeights, Cond.instanceMethod yX1_sumOfWeights, Cond.selects RX1 yX1_sumOfWeights yX1_sumOfWeights, Cond.code yX1_sumOfWeights cX1_sumOfWeights 4 (some .int), Cond.fieldLink RX1 75 "GhostLayers$Client" "weight" "I", Cond.methodLink RX1 115 yX1_unitsAbove]
def wsL_law0_r22 : List Cond := [Cond.instanceMethod yX1_unitsAbove, Cond.selects RX1 yX1_unitsAbove yX1_unitsAbove, Cond.code yX1_unitsAbove cX1_unitsAbove 5 (some .int), Cond.methodLink RX1 216 yX1_demote, Cond.instanceMethod yX1_demote, Cond.selects RX1 yX1_demote yX1_demote, Cond.code yX1_demote cX1_demote 4 none, Cond.fieldLink RX1 243 "GhostLayers$Tally" "demoted" "I", Cond.fieldLink RX1 246 "GhostLayers$Tally" "demotedBlock" "I", Cond.methodLink RX1 187 yX0_giveTo, Cond.instanceMethod yX0_giveTo, Cond.selects RX0 yX0_giveTo yX0_giveTo, Cond.code yX0_giveTo cX0_giveTo 3 none, Cond.methodLink RX8 159 yX1_finishWrite, Cond.instanceMethod yX1_finishWrite, Cond.selects RX1 yX1_finishWrite yX1_finishWrite, Cond.code yX1_finishWrite cX1_finishWrite 4 none, Cond.fieldLink RX1 151 "GhostLayers$Tally" "time" "I", Cond.methodLink RX1 264 yX0_changeValue, Cond.instanceMethod yX0_changeValue, Cond.selects RX0 yX0_changeValue yX0_changeValue, Cond.code yX0_changeValue cX0_changeValue 4 none, Cond.methodLink RX1 92 yX0_howManyDirty, Cond.instanceMethod yX0_howManyDirty]
def wsL_law0_r23 : List Cond := [Cond.selects RX0 yX0_howManyDirty yX0_howManyDirty, Cond.code yX0_howManyDirty cX0_howManyDirty 3 (some .int), Cond.methodLink RX1 158 yX0_writeBackSome, Cond.methodLink RL 134 yX9_runTrace, Cond.instanceMethod yX9_runTrace, Cond.selects RX9 yX9_runTrace yX9_runTrace, Cond.code yX9_runTrace cX9_runTrace 4 (some .int), Cond.fieldLink RX9 108 "GhostLayersModel" "errorCode" "I", Cond.fieldLink RX9 64 "GhostLayersModel" "position" "I", Cond.fieldLink RX9 135 "GhostLayersModel" "commandCount" "I", Cond.fieldLink RX9 83 "GhostLayersModel" "token" "I", Cond.methodLink RX9 115 yX9_nextToken, Cond.instanceMethod yX9_nextToken, Cond.selects RX9 yX9_nextToken yX9_nextToken, Cond.code yX9_nextToken cX9_nextToken 2 none, Cond.fieldLink RX9 70 "GhostLayersModel" "tokenStart" "I", Cond.fieldLink RX9 73 "GhostLayersModel" "letters" "I", Cond.fieldLink RX9 76 "GhostLayersModel" "word" "J", Cond.fieldLink RX9 80 "GhostLayersModel" "number" "I", Cond.constantLong RX9 90 (27), Cond.constantLong RX9 92 (96), Cond.constant RX9 97 (10000000), Cond.methodLink RX9 67 yX9_byteAt, Cond.instanceMethod yX9_byteAt]
def wsL_law0_r24 : List Cond := [Cond.selects RX9 yX9_byteAt yX9_byteAt, Cond.code yX9_byteAt cX9_byteAt 2 (some .int), Cond.methodLink RX9 86 yX9_isLetter, Cond.static yX9_isLetter, Cond.code yX9_isLetter cX9_isLetter 1 (some .boolean), Cond.methodLink RX9 94 yX9_isDigit, Cond.static yX9_isDigit, Cond.code yX9_isDigit cX9_isDigit 1 (some .boolean), Cond.methodLink RX9 111 yX9_isFine, Cond.instanceMethod yX9_isFine, Cond.selects RX9 yX9_isFine yX9_isFine, Cond.code yX9_isFine cX9_isFine 1 (some .boolean), Cond.methodLink RX9 147 yX9_parseCommand, Cond.instanceMethod yX9_parseCommand, Cond.selects RX9 yX9_parseCommand yX9_parseCommand, Cond.code yX9_parseCommand cX9_parseCommand 6 none, Cond.methodLink RX9 127 yX9_isWord, Cond.instanceMethod yX9_isWord, Cond.selects RX9 yX9_isWord yX9_isWord, Cond.code yX9_isWord cX9_isWord 5 (some .boolean), Cond.methodLink RX9 98 yJ0_length_8abf5, Cond.methodLink RX9 104 yJ0_charAt_5068e, Cond.methodLink RX9 118 yX9_require, Cond.instanceMethod yX9_require]
def wsL_law0_r25 : List Cond := [Cond.selects RX9 yX9_require yX9_require, Cond.code yX9_require cX9_require 3 none, Cond.methodLink RX9 122 yX9_advance, Cond.instanceMethod yX9_advance, Cond.selects RX9 yX9_advance yX9_advance, Cond.code yX9_advance cX9_advance 1 none, Cond.methodLink RX9 138 yX9_parseNumber, Cond.instanceMethod yX9_parseNumber, Cond.selects RX9 yX9_parseNumber yX9_parseNumber, Cond.code yX9_parseNumber cX9_parseNumber 4 (some .int), Cond.methodLink RX9 142 yX9_parseEnd, Cond.instanceMethod yX9_parseEnd, Cond.selects RX9 yX9_parseEnd yX9_parseEnd, Cond.code yX9_parseEnd cX9_parseEnd 2 (some .int), Cond.methodLink RX9 150 yX9_beginAct, Cond.instanceMethod yX9_beginAct, Cond.selects RX9 yX9_beginAct yX9_beginAct, Cond.code yX9_beginAct cX9_beginAct 2 none, Cond.fieldLink RX9 46 "GhostLayersModel" "acts" "I", Cond.methodLink RX9 49 yX9_copy, Cond.static yX9_copy, Cond.code yX9_copy cX9_copy 5 none, Cond.methodLink RX9 153 yX9_isClient, Cond.instanceMethod yX9_isClient]
def wsL_law0_r26 : List Cond := [Cond.selects RX9 yX9_isClient yX9_isClient, Cond.code yX9_isClient cX9_isClient 2 (some .boolean), Cond.methodLink RX9 156 yX9_runCommand, Cond.instanceMethod yX9_runCommand, Cond.selects RX9 yX9_runCommand yX9_runCommand, Cond.code yX9_runCommand cX9_runCommand 3 (some .int), Cond.methodLink RX9 159 yX9_writeBack, Cond.instanceMethod yX9_writeBack, Cond.selects RX9 yX9_writeBack yX9_writeBack, Cond.code yX9_writeBack cX9_writeBack 4 (some .int), Cond.methodLink RX9 196 yX9_inOrder, Cond.instanceMethod yX9_inOrder, Cond.selects RX9 yX9_inOrder yX9_inOrder, Cond.code yX9_inOrder cX9_inOrder 5 (some .int), Cond.methodLink RX9 193 yX9_isDirty, Cond.instanceMethod yX9_isDirty, Cond.selects RX9 yX9_isDirty yX9_isDirty, Cond.code yX9_isDirty cX9_isDirty 2 (some .boolean), Cond.methodLink RX9 171 yX9_of, Cond.instanceMethod yX9_of, Cond.selects RX9 yX9_of yX9_of, Cond.code yX9_of cX9_of 3 (some .int), Cond.methodLink RX9 199 yX9_writeUnit, Cond.instanceMethod yX9_writeUnit]
def wsL_law0_r27 : List Cond := [Cond.selects RX9 yX9_writeUnit yX9_writeUnit, Cond.code yX9_writeUnit cX9_writeUnit 2 none, Cond.methodLink RX9 162 yX9_access, Cond.instanceMethod yX9_access, Cond.selects RX9 yX9_access yX9_access, Cond.code yX9_access cX9_access 8 none, Cond.methodLink RX9 246 Lib.Math.max.name, Cond.methodLink RX9 261 yX9_isScan, Cond.instanceMethod yX9_isScan, Cond.selects RX9 yX9_isScan yX9_isScan, Cond.code yX9_isScan cX9_isScan 5 (some .boolean), Cond.methodLink RX9 168 yX9_ofClient, Cond.instanceMethod yX9_ofClient, Cond.selects RX9 yX9_ofClient yX9_ofClient, Cond.code yX9_ofClient cX9_ofClient 3 (some .int), Cond.methodLink RX9 165 yX9_putClient, Cond.instanceMethod yX9_putClient, Cond.selects RX9 yX9_putClient yX9_putClient, Cond.code yX9_putClient cX9_putClient 4 none, Cond.methodLink RX9 240 yX9_countHit, Cond.instanceMethod yX9_countHit, Cond.selects RX9 yX9_countHit yX9_countHit, Cond.code yX9_countHit cX9_countHit 3 none, Cond.methodLink RX9 218 yX9_move]
def wsL_law0_r28 : List Cond := [Cond.instanceMethod yX9_move, Cond.selects RX9 yX9_move yX9_move, Cond.code yX9_move cX9_move 3 none, Cond.methodLink RX9 182 yX9_take, Cond.instanceMethod yX9_take, Cond.selects RX9 yX9_take yX9_take, Cond.code yX9_take cX9_take 5 none, Cond.methodLink RX9 177 yX9_placeOf, Cond.instanceMethod yX9_placeOf, Cond.selects RX9 yX9_placeOf yX9_placeOf, Cond.code yX9_placeOf cX9_placeOf 4 (some .int), Cond.methodLink RX9 174 yX9_blockAt, Cond.instanceMethod yX9_blockAt, Cond.selects RX9 yX9_blockAt yX9_blockAt, Cond.code yX9_blockAt cX9_blockAt 3 (some .int), Cond.methodLink RX9 180 yX9_length, Cond.instanceMethod yX9_length, Cond.selects RX9 yX9_length yX9_length, Cond.code yX9_length cX9_length 2 (some .int), Cond.methodLink RX9 186 yX9_bring, Cond.instanceMethod yX9_bring, Cond.selects RX9 yX9_bring yX9_bring, Cond.code yX9_bring cX9_bring 5 none, Cond.methodLink RX9 265 yX9_scan]
def wsL_law0_r29 : List Cond := [Cond.instanceMethod yX9_scan, Cond.selects RX9 yX9_scan yX9_scan, Cond.code yX9_scan cX9_scan 3 none, Cond.methodLink RX9 237 yX9_makeRoomBelow, Cond.instanceMethod yX9_makeRoomBelow, Cond.selects RX9 yX9_makeRoomBelow yX9_makeRoomBelow, Cond.code yX9_makeRoomBelow cX9_makeRoomBelow 2 none, Cond.fieldLink RX9 215 "GhostLayersModel" "lastLeft" "I", Cond.methodLink RX9 212 yX9_leavingUnit, Cond.instanceMethod yX9_leavingUnit, Cond.selects RX9 yX9_leavingUnit yX9_leavingUnit, Cond.code yX9_leavingUnit cX9_leavingUnit 2 (some .int), Cond.methodLink RX9 243 yX9_clean, Cond.instanceMethod yX9_clean, Cond.selects RX9 yX9_clean yX9_clean, Cond.code yX9_clean cX9_clean 2 none, Cond.methodLink RX9 268 yX9_come, Cond.instanceMethod yX9_come, Cond.selects RX9 yX9_come yX9_come, Cond.code yX9_come cX9_come 4 none, Cond.methodLink RX9 254 yX9_learn, Cond.instanceMethod yX9_learn, Cond.selects RX9 yX9_learn yX9_learn, Cond.code yX9_learn cX9_learn 4 none]
def wsL_law0_r30 : List Cond := [Cond.methodLink RX9 251 Lib.Math.min.name, Cond.methodLink RX9 189 yX9_dropGhost, Cond.instanceMethod yX9_dropGhost, Cond.selects RX9 yX9_dropGhost yX9_dropGhost, Cond.code yX9_dropGhost cX9_dropGhost 2 none, Cond.methodLink RX9 257 yX9_makeRoom, Cond.instanceMethod yX9_makeRoom, Cond.selects RX9 yX9_makeRoom yX9_makeRoom, Cond.code yX9_makeRoom cX9_makeRoom 4 none, Cond.fieldLink RX9 231 "GhostLayersModel" "lastDemoted" "I", Cond.methodLink RX9 221 yX9_isFull, Cond.instanceMethod yX9_isFull, Cond.selects RX9 yX9_isFull yX9_isFull, Cond.code yX9_isFull cX9_isFull 1 (some .boolean), Cond.methodLink RX9 224 yX9_victimList, Cond.instanceMethod yX9_victimList, Cond.selects RX9 yX9_victimList yX9_victimList, Cond.code yX9_victimList cX9_victimList 4 (some .int), Cond.methodLink RX9 228 yX9_victimOf, Cond.instanceMethod yX9_victimOf, Cond.selects RX9 yX9_victimOf yX9_victimOf, Cond.code yX9_victimOf cX9_victimOf 3 (some .int), Cond.methodLink RX9 209 yX9_hasTooMuch, Cond.instanceMethod yX9_hasTooMuch]
def wsL_law0_r31 : List Cond := [Cond.selects RX9 yX9_hasTooMuch yX9_hasTooMuch, Cond.code yX9_hasTooMuch cX9_hasTooMuch 2 (some .boolean), Cond.methodLink RX9 202 yX9_unitsOf, Cond.instanceMethod yX9_unitsOf, Cond.selects RX9 yX9_unitsOf yX9_unitsOf, Cond.code yX9_unitsOf cX9_unitsOf 6 (some .int), Cond.methodLink RX9 206 yX9_allWeights, Cond.instanceMethod yX9_allWeights, Cond.selects RX9 yX9_allWeights yX9_allWeights, Cond.code yX9_allWeights cX9_allWeights 3 (some .int), Cond.methodLink RX9 234 yX9_becomeGhost, Cond.instanceMethod yX9_becomeGhost, Cond.selects RX9 yX9_becomeGhost yX9_becomeGhost, Cond.code yX9_becomeGhost cX9_becomeGhost 3 none, Cond.methodLink RX9 271 yX9_dirtyUnits, Cond.instanceMethod yX9_dirtyUnits, Cond.selects RX9 yX9_dirtyUnits yX9_dirtyUnits, Cond.code yX9_dirtyUnits cX9_dirtyUnits 3 (some .int), Cond.methodLink RL 135 yX8_errorCode, Cond.instanceMethod yX8_errorCode, Cond.selects RX8 yX8_errorCode yX8_errorCode, Cond.code yX8_errorCode cX8_errorCode 1 (some .int), Cond.fieldLink RX8 87 "GhostLayers$Trace" "errorKind" "I", Cond.methodLink RL 138 yX9_errorCode]
def wsL_law0_r32 : List Cond := [Cond.instanceMethod yX9_errorCode, Cond.selects RX9 yX9_errorCode yX9_errorCode, Cond.code yX9_errorCode cX9_errorCode 1 (some .int), Cond.methodLink RL 139 yX8_errorPosition, Cond.instanceMethod yX8_errorPosition, Cond.selects RX8 yX8_errorPosition yX8_errorPosition, Cond.code yX8_errorPosition cX8_errorPosition 1 (some .int), Cond.fieldLink RX8 90 "GhostLayers$Trace" "errorPlace" "I", Cond.methodLink RL 142 yX9_errorPosition, Cond.instanceMethod yX9_errorPosition, Cond.selects RX9 yX9_errorPosition yX9_errorPosition, Cond.code yX9_errorPosition cX9_errorPosition 1 (some .int), Cond.methodLink RL 143 yL_addClient, Cond.static yL_addClient, Cond.codeWith yL_addClient cL_addClient 4 (some .int) [(0, 9, 12, 18), (0, 9, 15, 13)], Cond.methodLink RL 20 yX8_addClient, Cond.instanceMethod yX8_addClient, Cond.selects RX8 yX8_addClient yX8_addClient, Cond.code yX8_addClient cX8_addClient 2 (some .int), Cond.methodLink RX8 98 yX1_addOne, Cond.instanceMethod yX1_addOne, Cond.selects RX1 yX1_addOne yX1_addOne, Cond.code yX1_addOne cX1_addOne 4 (some .int), Cond.methodLink RX1 154 yX2_startAfresh]
def wsL_law0_r33 : List Cond := [Cond.instanceMethod yX2_startAfresh, Cond.selects RX2 yX2_startAfresh yX2_startAfresh, Cond.code yX2_startAfresh cX2_startAfresh 2 none, Cond.methodLink RL 145 yX9_addClient, Cond.instanceMethod yX9_addClient, Cond.selects RX9 yX9_addClient yX9_addClient, Cond.code yX9_addClient cX9_addClient 4 (some .int), Cond.methodLink RL 146 yL_setWeight, Cond.static yL_setWeight, Cond.codeWith yL_setWeight cL_setWeight 5 (some .int) [(0, 10, 13, 27), (0, 10, 17, 18)], Cond.classLink RL 27 "java/lang/IndexOutOfBoundsException", Cond.methodLink RL 23 yX8_setWeight, Cond.instanceMethod yX8_setWeight, Cond.selects RX8 yX8_setWeight yX8_setWeight, Cond.code yX8_setWeight cX8_setWeight 3 (some .int), Cond.methodLink RX8 102 yX8_needClient, Cond.instanceMethod yX8_needClient, Cond.selects RX8 yX8_needClient yX8_needClient, Cond.code yX8_needClient cX8_needClient 2 none, Cond.methodLink RX8 127 yX8_needIndex, Cond.static yX8_needIndex, Cond.code yX8_needIndex cX8_needIndex 2 none, Cond.classLink RX8 275 "java/lang/IndexOutOfBoundsException", Cond.initialized "java/lang/IndexOutOfBoundsException"]
def wsL_law0_r34 : List Cond := [Cond.methodLink RX8 105 yX1_changeWeight, Cond.instanceMethod yX1_changeWeight, Cond.selects RX1 yX1_changeWeight yX1_changeWeight, Cond.code yX1_changeWeight cX1_changeWeight 5 (some .int), Cond.methodLink RL 149 yX9_setWeight, Cond.instanceMethod yX9_setWeight, Cond.selects RX9 yX9_setWeight yX9_setWeight, Cond.code yX9_setWeight cX9_setWeight 4 (some .int), Cond.methodLink RL 150 yL_set, Cond.static yL_set, Cond.codeWith yL_set cL_set 5 (some .int) [(0, 10, 13, 18)], Cond.methodLink RL 29 yX8_set, Cond.instanceMethod yX8_set, Cond.selects RX8 yX8_set yX8_set, Cond.code yX8_set cX8_set 3 (some .int), Cond.methodLink RX8 109 yX1_changeSetting, Cond.instanceMethod yX1_changeSetting, Cond.selects RX1 yX1_changeSetting yX1_changeSetting, Cond.code yX1_changeSetting cX1_changeSetting 4 (some .int), Cond.methodLink RL 152 yX9_set, Cond.instanceMethod yX9_set, Cond.selects RX9 yX9_set yX9_set, Cond.code yX9_set cX9_set 5 (some .int), Cond.methodLink RL 153 yL_shape]
def wsL_law0_r35 : List Cond := [Cond.static yL_shape, Cond.codeWith yL_shape cL_shape 5 (some .int) [(0, 10, 13, 18)], Cond.methodLink RL 32 yX8_shape, Cond.instanceMethod yX8_shape, Cond.selects RX8 yX8_shape yX8_shape, Cond.code yX8_shape cX8_shape 3 (some .int), Cond.methodLink RX8 112 yX1_reshape, Cond.instanceMethod yX1_reshape, Cond.selects RX1 yX1_reshape yX1_reshape, Cond.code yX1_reshape cX1_reshape 4 (some .int), Cond.methodLink RX1 161 yX0_dropAll, Cond.instanceMethod yX0_dropAll, Cond.selects RX0 yX0_dropAll yX0_dropAll, Cond.code yX0_dropAll cX0_dropAll 2 none, Cond.methodLink RL 155 yX9_shape, Cond.instanceMethod yX9_shape, Cond.selects RX9 yX9_shape yX9_shape, Cond.code yX9_shape cX9_shape 6 (some .int), Cond.methodLink RL 156 yL_count, Cond.static yL_count, Cond.codeWith yL_count cL_count 4 (some .int) [(0, 9, 12, 18)], Cond.methodLink RL 35 yX8_count, Cond.instanceMethod yX8_count, Cond.selects RX8 yX8_count yX8_count]
def wsL_law0_r36 : List Cond := [Cond.code yX8_count cX8_count 2 (some .int), Cond.fieldLink RX8 115 "GhostLayers$History" "count" "I", Cond.methodLink RX8 118 yX1_numberOf, Cond.instanceMethod yX1_numberOf, Cond.selects RX1 yX1_numberOf yX1_numberOf, Cond.code yX1_numberOf cX1_numberOf 2 (some .int), Cond.fieldLink RX1 96 "GhostLayers$Blocks" "head" "I", Cond.fieldLink RX1 99 "GhostLayers$Blocks" "writtenBack" "I", Cond.methodLink RX1 102 yX6_numberOf, Cond.instanceMethod yX6_numberOf, Cond.selects RX6 yX6_numberOf yX6_numberOf, Cond.code yX6_numberOf cX6_numberOf 2 (some .int), Cond.methodLink RL 158 yX9_count, Cond.instanceMethod yX9_count, Cond.selects RX9 yX9_count yX9_count, Cond.code yX9_count cX9_count 2 (some .int), Cond.methodLink RL 159 yL_client, Cond.static yL_client, Cond.codeWith yL_client cL_client 5 (some .int) [(0, 10, 13, 27), (0, 10, 17, 18)], Cond.methodLink RL 38 yX8_client, Cond.instanceMethod yX8_client, Cond.selects RX8 yX8_client yX8_client, Cond.code yX8_client cX8_client 3 (some .int), Cond.methodLink RX8 121 yX1_numberOfClient]
def wsL_law0_r37 : List Cond := [Cond.instanceMethod yX1_numberOfClient, Cond.selects RX1 yX1_numberOfClient yX1_numberOfClient, Cond.code yX1_numberOfClient cX1_numberOfClient 4 (some .int), Cond.methodLink RX1 105 yX1_upperUnitsOf, Cond.instanceMethod yX1_upperUnitsOf, Cond.selects RX1 yX1_upperUnitsOf yX1_upperUnitsOf, Cond.code yX1_upperUnitsOf cX1_upperUnitsOf 2 (some .int), Cond.methodLink RX1 108 yX1_howManyOwned, Cond.instanceMethod yX1_howManyOwned, Cond.selects RX1 yX1_howManyOwned yX1_howManyOwned, Cond.code yX1_howManyOwned cX1_howManyOwned 5 (some .int), Cond.methodLink RX1 119 yX2_numberOf, Cond.instanceMethod yX2_numberOf, Cond.selects RX2 yX2_numberOf yX2_numberOf, Cond.code yX2_numberOf cX2_numberOf 2 (some .int), Cond.methodLink RL 161 yX9_client, Cond.instanceMethod yX9_client, Cond.selects RX9 yX9_client yX9_client, Cond.code yX9_client cX9_client 3 (some .int), Cond.methodLink RL 162 yL_block, Cond.static yL_block, Cond.codeWith yL_block cL_block 5 (some .int) [(0, 10, 13, 18)], Cond.methodLink RL 41 yX8_block, Cond.instanceMethod yX8_block]
def wsL_law0_r38 : List Cond := [Cond.selects RX8 yX8_block yX8_block, Cond.code yX8_block cX8_block 3 (some .int), Cond.methodLink RX8 124 yX1_numberOfBlock, Cond.instanceMethod yX1_numberOfBlock, Cond.selects RX1 yX1_numberOfBlock yX1_numberOfBlock, Cond.code yX1_numberOfBlock cX1_numberOfBlock 3 (some .int), Cond.methodLink RX1 123 yX1_placeOfUnit, Cond.instanceMethod yX1_placeOfUnit, Cond.selects RX1 yX1_placeOfUnit yX1_placeOfUnit, Cond.code yX1_placeOfUnit cX1_placeOfUnit 3 (some .int), Cond.methodLink RX1 141 yX5_placeOf, Cond.instanceMethod yX5_placeOf, Cond.selects RX5 yX5_placeOf yX5_placeOf, Cond.code yX5_placeOf cX5_placeOf 3 (some .int), Cond.methodLink RX1 126 yX0_valueOf, Cond.instanceMethod yX0_valueOf, Cond.selects RX0 yX0_valueOf yX0_valueOf, Cond.code yX0_valueOf cX0_valueOf 2 (some .int), Cond.methodLink RX1 132 yX0_sinceOf, Cond.instanceMethod yX0_sinceOf, Cond.selects RX0 yX0_sinceOf yX0_sinceOf, Cond.code yX0_sinceOf cX0_sinceOf 2 (some .int), Cond.methodLink RX1 138 yX0_storedOf, Cond.instanceMethod yX0_storedOf]
def wsL_law0_r39 : List Cond := [Cond.selects RX0 yX0_storedOf yX0_storedOf, Cond.code yX0_storedOf cX0_storedOf 2 (some .int), Cond.methodLink RL 164 yX9_block, Cond.instanceMethod yX9_block, Cond.selects RX9 yX9_block yX9_block, Cond.code yX9_block cX9_block 4 (some .int), Cond.methodLink RX9 274 yX9_isBlock, Cond.static yX9_isBlock, Cond.code yX9_isBlock cX9_isBlock 1 (some .boolean), Cond.methodLink RL 165 yL_at, Cond.static yL_at, Cond.codeWith yL_at cL_at 5 (some .int) [(0, 10, 13, 27)], Cond.methodLink RL 44 yX8_at, Cond.instanceMethod yX8_at, Cond.selects RX8 yX8_at yX8_at, Cond.code yX8_at cX8_at 3 (some .int), Cond.methodLink RX8 131 yX8_needNoLessThanZero, Cond.static yX8_needNoLessThanZero, Cond.code yX8_needNoLessThanZero cX8_needNoLessThanZero 1 none, Cond.methodLink RX8 134 yX1_rowOf, Cond.methodLink RX8 138 yX5_blockAt, Cond.methodLink RL 167 yX9_at, Cond.instanceMethod yX9_at, Cond.selects RX9 yX9_at yX9_at]
def wsL_law0_r40 : List Cond := [Cond.code yX9_at cX9_at 3 (some .int), Cond.methodLink RX9 277 yX9_isList, Cond.instanceMethod yX9_isList, Cond.selects RX9 yX9_isList yX9_isList, Cond.code yX9_isList cX9_isList 2 (some .boolean), Cond.methodLink RL 168 yL_read, Cond.static yL_read, Cond.codeWith yL_read cL_read 5 (some .int) [(0, 10, 13, 27), (0, 10, 17, 18)], Cond.methodLink RL 47 yX8_read, Cond.instanceMethod yX8_read, Cond.selects RX8 yX8_read yX8_read, Cond.code yX8_read cX8_read 3 (some .int), Cond.methodLink RX8 151 yX0_valueOf, Cond.methodLink RL 170 yX9_read, Cond.instanceMethod yX9_read, Cond.selects RX9 yX9_read yX9_read, Cond.code yX9_read cX9_read 3 (some .int), Cond.methodLink RL 171 yL_write, Cond.static yL_write, Cond.codeWith yL_write cL_write 6 (some .int) [(0, 12, 15, 27), (0, 12, 19, 18)], Cond.methodLink RL 50 yX8_write, Cond.instanceMethod yX8_write, Cond.selects RX8 yX8_write yX8_write, Cond.code yX8_write cX8_write 5 (some .int)]
def wsL_law0_r41 : List Cond := [Cond.fieldLink RX8 156 "GhostLayers$Blocks" "writtenBack" "I", Cond.methodLink RL 174 yX9_write, Cond.instanceMethod yX9_write, Cond.selects RX9 yX9_write yX9_write, Cond.code yX9_write cX9_write 5 (some .int), Cond.methodLink RL 175 yL_flush, Cond.static yL_flush, Cond.codeWith yL_flush cL_flush 4 (some .int) [(0, 9, 12, 18)], Cond.methodLink RL 54 yX8_flush, Cond.instanceMethod yX8_flush, Cond.selects RX8 yX8_flush yX8_flush, Cond.code yX8_flush cX8_flush 2 (some .int), Cond.methodLink RL 177 yX9_flush, Cond.instanceMethod yX9_flush, Cond.selects RX9 yX9_flush yX9_flush, Cond.code yX9_flush cX9_flush 2 (some .int), Cond.methodLink RL 178 yL_forget, Cond.static yL_forget, Cond.codeWith yL_forget cL_forget 4 (some .int) [(0, 16, 19, 18)], Cond.methodLink RL 57 yX8_forget, Cond.instanceMethod yX8_forget, Cond.selects RX8 yX8_forget yX8_forget, Cond.code yX8_forget cX8_forget 2 (some .boolean), Cond.methodLink RX8 165 yX1_loseBlock]
def wsL_law0_r42 : List Cond := [Cond.instanceMethod yX1_loseBlock, Cond.selects RX1 yX1_loseBlock yX1_loseBlock, Cond.code yX1_loseBlock cX1_loseBlock 3 (some .boolean), Cond.methodLink RL 180 yX9_forget, Cond.instanceMethod yX9_forget, Cond.selects RX9 yX9_forget yX9_forget, Cond.code yX9_forget cX9_forget 3 (some .boolean), Cond.methodLink RL 181 yL_share, Cond.static yL_share, Cond.codeWith yL_share cL_share 4 (some .int) [(0, 8, 11, 27)], Cond.methodLink RL 61 yX8_share, Cond.instanceMethod yX8_share, Cond.selects RX8 yX8_share yX8_share, Cond.code yX8_share cX8_share 3 (some .double), Cond.fieldLink RX8 172 "GhostLayers$Cache" "up" "I", Cond.methodLink RX8 168 yX1_sumOfWeights, Cond.methodLink RX8 175 yX1_weightOf, Cond.instanceMethod yX1_weightOf, Cond.selects RX1 yX1_weightOf yX1_weightOf, Cond.code yX1_weightOf cX1_weightOf 3 (some .int), Cond.methodLink RL 184 yX9_share, Cond.instanceMethod yX9_share, Cond.selects RX9 yX9_share yX9_share, Cond.code yX9_share cX9_share 2 (some .double)]
def wsL_law0_r43 : List Cond := [Cond.methodLink RL 185 yX8_hitShare, Cond.instanceMethod yX8_hitShare, Cond.selects RX8 yX8_hitShare yX8_hitShare, Cond.code yX8_hitShare cX8_hitShare 2 (some .float), Cond.fieldLink RX8 178 "GhostLayers$Tally" "upperHits" "I", Cond.methodLink RL 189 yX9_hitShare, Cond.instanceMethod yX9_hitShare, Cond.selects RX9 yX9_hitShare yX9_hitShare, Cond.code yX9_hitShare cX9_hitShare 1 (some .float), Cond.methodLink RL 190 yL_order, Cond.static yL_order, Cond.codeWith yL_order cL_order 4 (some .int) [(0, 9, 12, 27)], Cond.methodLink RL 65 yX8_order, Cond.instanceMethod yX8_order, Cond.selects RX8 yX8_order yX8_order, Cond.code yX8_order cX8_order 2 (some .int), Cond.methodLink RX8 181 yX0_dirtyAt, Cond.methodLink RL 192 yX9_order, Cond.instanceMethod yX9_order, Cond.selects RX9 yX9_order yX9_order, Cond.code yX9_order cX9_order 2 (some .int), Cond.methodLink RL 193 yX8_victim, Cond.instanceMethod yX8_victim, Cond.selects RX8 yX8_victim yX8_victim]
def wsL_law0_r44 : List Cond := [Cond.code yX8_victim cX8_victim 2 (some .int), Cond.methodLink RX8 184 yX1_unitToDemote, Cond.methodLink RL 197 yX9_victim, Cond.instanceMethod yX9_victim, Cond.selects RX9 yX9_victim yX9_victim, Cond.code yX9_victim cX9_victim 2 (some .int), Cond.methodLink RL 198 yX8_leaving, Cond.instanceMethod yX8_leaving, Cond.selects RX8 yX8_leaving yX8_leaving, Cond.code yX8_leaving cX8_leaving 1 (some .int), Cond.methodLink RX8 188 yX1_unitToLeave, Cond.methodLink RL 201 yX9_leaving, Cond.instanceMethod yX9_leaving, Cond.selects RX9 yX9_leaving yX9_leaving, Cond.code yX9_leaving cX9_leaving 1 (some .int), Cond.methodLink RL 202 yX8_oldest, Cond.instanceMethod yX8_oldest, Cond.selects RX8 yX8_oldest yX8_oldest, Cond.code yX8_oldest cX8_oldest 1 (some .int), Cond.methodLink RX8 191 yX0_dirtyLongest, Cond.instanceMethod yX0_dirtyLongest, Cond.selects RX0 yX0_dirtyLongest yX0_dirtyLongest, Cond.code yX0_dirtyLongest cX0_dirtyLongest 3 (some .int), Cond.methodLink RX0 49 yX0_sinceOf]
def wsL_law0_r45 : List Cond := [Cond.methodLink RL 205 yX9_oldest, Cond.instanceMethod yX9_oldest, Cond.selects RX9 yX9_oldest yX9_oldest, Cond.code yX9_oldest cX9_oldest 4 (some .int), Cond.methodLink RL 206 yL_ages, Cond.static yL_ages, Cond.codeWith yL_ages cL_ages 4 (some .int) [(0, 9, 12, 27)], Cond.methodLink RL 68 yX8_ages, Cond.instanceMethod yX8_ages, Cond.selects RX8 yX8_ages yX8_ages, Cond.code yX8_ages cX8_ages 2 (some .int), Cond.methodLink RX8 194 yX1_sumOfAges, Cond.instanceMethod yX1_sumOfAges, Cond.selects RX1 yX1_sumOfAges yX1_sumOfAges, Cond.code yX1_sumOfAges cX1_sumOfAges 6 (some .int), Cond.methodLink RL 208 yX9_ages, Cond.instanceMethod yX9_ages, Cond.selects RX9 yX9_ages yX9_ages, Cond.code yX9_ages cX9_ages 5 (some .int), Cond.methodLink RL 209 yL_ownedAt, Cond.static yL_ownedAt, Cond.codeWith yL_ownedAt cL_ownedAt 6 (some .int) [(0, 12, 15, 27)], Cond.methodLink RL 71 yX8_ownedAt, Cond.instanceMethod yX8_ownedAt]
def wsL_law0_r46 : List Cond := [Cond.selects RX8 yX8_ownedAt yX8_ownedAt, Cond.code yX8_ownedAt cX8_ownedAt 4 (some .int), Cond.methodLink RX8 197 yX1_ownedBlock, Cond.instanceMethod yX1_ownedBlock, Cond.selects RX1 yX1_ownedBlock yX1_ownedBlock, Cond.code yX1_ownedBlock cX1_ownedBlock 8 (some .int), Cond.methodLink RL 211 yX9_ownedAt, Cond.instanceMethod yX9_ownedAt, Cond.selects RX9 yX9_ownedAt yX9_ownedAt, Cond.code yX9_ownedAt cX9_ownedAt 6 (some .int), Cond.methodLink RL 212 yL_excess, Cond.static yL_excess, Cond.codeWith yL_excess cL_excess 4 (some .int) [(0, 9, 12, 27)], Cond.methodLink RL 74 yX8_excess, Cond.instanceMethod yX8_excess, Cond.selects RX8 yX8_excess yX8_excess, Cond.code yX8_excess cX8_excess 4 (some .float), Cond.methodLink RX8 201 yX1_upperUnitsOf, Cond.methodLink RX8 204 yX1_unitsAbove, Cond.methodLink RL 214 yX9_excess, Cond.instanceMethod yX9_excess, Cond.selects RX9 yX9_excess yX9_excess, Cond.code yX9_excess cX9_excess 3 (some .float), Cond.methodLink RL 215 yL_toScan]
def wsL_law0_r47 : List Cond := [Cond.static yL_toScan, Cond.codeWith yL_toScan cL_toScan 5 (some .int) [(0, 10, 13, 27), (0, 10, 17, 18)], Cond.methodLink RL 78 yX8_toScan, Cond.instanceMethod yX8_toScan, Cond.selects RX8 yX8_toScan yX8_toScan, Cond.code yX8_toScan cX8_toScan 4 (some .int), Cond.fieldLink RX8 207 "GhostLayers$Cache" "length" "I", Cond.methodLink RX8 213 Lib.Math.max.name, Cond.methodLink RX8 210 yX1_runAt, Cond.instanceMethod yX1_runAt, Cond.selects RX1 yX1_runAt yX1_runAt, Cond.code yX1_runAt cX1_runAt 4 (some .int), Cond.methodLink RL 217 yX9_toScan, Cond.instanceMethod yX9_toScan, Cond.selects RX9 yX9_toScan yX9_toScan, Cond.code yX9_toScan cX9_toScan 4 (some .int), Cond.methodLink RX9 280 yX9_runWith, Cond.instanceMethod yX9_runWith, Cond.selects RX9 yX9_runWith yX9_runWith, Cond.code yX9_runWith cX9_runWith 4 (some .int), Cond.methodLink RL 218 yL_rank, Cond.static yL_rank, Cond.codeWith yL_rank cL_rank 4 (some .int) [(0, 9, 12, 18)], Cond.methodLink RL 81 yX8_rank]
def wsL_law0_r48 : List Cond := [Cond.instanceMethod yX8_rank, Cond.selects RX8 yX8_rank yX8_rank, Cond.code yX8_rank cX8_rank 2 (some .int), Cond.methodLink RX8 218 yX0_rankOf, Cond.instanceMethod yX0_rankOf, Cond.selects RX0 yX0_rankOf yX0_rankOf, Cond.code yX0_rankOf cX0_rankOf 5 (some .int), Cond.methodLink RL 220 yX9_rank, Cond.instanceMethod yX9_rank, Cond.selects RX9 yX9_rank yX9_rank, Cond.code yX9_rank cX9_rank 3 (some .int), Cond.methodLink RL 221 yL_between, Cond.static yL_between, Cond.codeWith yL_between cL_between 6 (some .int) [(0, 12, 15, 27), (0, 12, 19, 18)], Cond.methodLink RL 84 yX8_between, Cond.instanceMethod yX8_between, Cond.selects RX8 yX8_between yX8_between, Cond.code yX8_between cX8_between 4 (some .int), Cond.methodLink RX8 221 yX5_howManyIn, Cond.instanceMethod yX5_howManyIn, Cond.selects RX5 yX5_howManyIn yX5_howManyIn, Cond.code yX5_howManyIn cX5_howManyIn 5 (some .int), Cond.methodLink RL 223 yX9_between, Cond.instanceMethod yX9_between]
def wsL_law0_r49 : List Cond := [Cond.selects RX9 yX9_between yX9_between, Cond.code yX9_between cX9_between 6 (some .int), Cond.methodLink RL 224 yL_longest, Cond.static yL_longest, Cond.codeWith yL_longest cL_longest 4 (some .int) [(0, 9, 12, 27)], Cond.methodLink RL 87 yX8_longest, Cond.instanceMethod yX8_longest, Cond.selects RX8 yX8_longest yX8_longest, Cond.code yX8_longest cX8_longest 2 (some .int), Cond.methodLink RX8 224 yX0_longestChain, Cond.instanceMethod yX0_longestChain, Cond.selects RX0 yX0_longestChain yX0_longestChain, Cond.code yX0_longestChain cX0_longestChain 6 (some .int), Cond.methodLink RX0 52 Lib.Math.max.name, Cond.methodLink RL 226 yX9_longest, Cond.instanceMethod yX9_longest, Cond.selects RX9 yX9_longest yX9_longest, Cond.code yX9_longest cX9_longest 5 (some .int), Cond.methodLink RX9 283 yX9_isIn, Cond.instanceMethod yX9_isIn, Cond.selects RX9 yX9_isIn yX9_isIn, Cond.code yX9_isIn cX9_isIn 3 (some .boolean), Cond.methodLink RL 227 yX8_differing, Cond.instanceMethod yX8_differing]
def wsL_law0_r50 : List Cond := [Cond.selects RX8 yX8_differing yX8_differing, Cond.code yX8_differing cX8_differing 1 (some .int), Cond.methodLink RX8 227 yX0_howManyDiffer, Cond.instanceMethod yX0_howManyDiffer, Cond.selects RX0 yX0_howManyDiffer yX0_howManyDiffer, Cond.code yX0_howManyDiffer cX0_howManyDiffer 3 (some .int), Cond.methodLink RL 230 yX9_differing, Cond.instanceMethod yX9_differing, Cond.selects RX9 yX9_differing yX9_differing, Cond.code yX9_differing cX9_differing 3 (some .int), Cond.methodLink RL 231 yL_stale, Cond.static yL_stale, Cond.codeWith yL_stale cL_stale 4 (some .int) [(0, 9, 12, 18)], Cond.methodLink RL 90 yX8_stale, Cond.instanceMethod yX8_stale, Cond.selects RX8 yX8_stale yX8_stale, Cond.code yX8_stale cX8_stale 2 (some .int), Cond.methodLink RX8 235 yX0_howManyDirtySince, Cond.instanceMethod yX0_howManyDirtySince, Cond.selects RX0 yX0_howManyDirtySince yX0_howManyDirtySince, Cond.code yX0_howManyDirtySince cX0_howManyDirtySince 4 (some .int), Cond.methodLink RL 233 yX9_stale, Cond.instanceMethod yX9_stale, Cond.selects RX9 yX9_stale yX9_stale]
def wsL_law0_r51 : List Cond := [Cond.code yX9_stale cX9_stale 4 (some .int), Cond.methodLink RL 234 yL_wouldBe, Cond.static yL_wouldBe, Cond.codeWith yL_wouldBe cL_wouldBe 6 (some .int) [(0, 12, 15, 27), (0, 12, 19, 18)], Cond.methodLink RL 93 yX8_wouldBe, Cond.instanceMethod yX8_wouldBe, Cond.selects RX8 yX8_wouldBe yX8_wouldBe, Cond.code yX8_wouldBe cX8_wouldBe 5 (some .int), Cond.methodLink RX8 238 yX1_copyFrom, Cond.methodLink RX8 241 yX8_predictionOf, Cond.instanceMethod yX8_predictionOf, Cond.selects RX8 yX8_predictionOf yX8_predictionOf, Cond.code yX8_predictionOf cX8_predictionOf 4 (some .int), Cond.fieldLink RX8 302 "GhostLayers$Tally" "scans" "I", Cond.fieldLink RX8 308 "GhostLayers$Tally" "demotedBlock" "I", Cond.fieldLink RX8 311 "GhostLayers$Tally" "leftBlock" "I", Cond.fieldLink RX8 314 "GhostLayers$Cache" "target" "I", Cond.methodLink RX8 305 yX0_listOf, Cond.methodLink RL 236 yX9_wouldBe, Cond.instanceMethod yX9_wouldBe, Cond.selects RX9 yX9_wouldBe yX9_wouldBe, Cond.code yX9_wouldBe cX9_wouldBe 6 (some .int), Cond.methodLink RX9 286 yX9_answerAbout, Cond.instanceMethod yX9_answerAbout]
def wsL_law0_r52 : List Cond := [Cond.selects RX9 yX9_answerAbout yX9_answerAbout, Cond.code yX9_answerAbout cX9_answerAbout 3 (some .int), Cond.methodLink RL 237 yL_ahead, Cond.static yL_ahead, Cond.codeWith yL_ahead cL_ahead 8 (some .int) [(0, 16, 19, 27), (0, 16, 23, 18)], Cond.methodLink RL 96 yX8_ahead, Cond.instanceMethod yX8_ahead, Cond.selects RX8 yX8_ahead yX8_ahead, Cond.code yX8_ahead cX8_ahead 6 (some .int), Cond.methodLink RX8 244 yX8_needReadsAhead, Cond.instanceMethod yX8_needReadsAhead, Cond.selects RX8 yX8_needReadsAhead yX8_needReadsAhead, Cond.code yX8_needReadsAhead cX8_needReadsAhead 5 none, Cond.methodLink RX8 282 Lib.Math.min.name, Cond.methodLink RX8 248 yX8_readAhead, Cond.instanceMethod yX8_readAhead, Cond.selects RX8 yX8_readAhead yX8_readAhead, Cond.code yX8_readAhead cX8_readAhead 8 none, Cond.methodLink RX8 252 yX8_differenceAhead, Cond.instanceMethod yX8_differenceAhead, Cond.selects RX8 yX8_differenceAhead yX8_differenceAhead, Cond.code yX8_differenceAhead cX8_differenceAhead 4 (some .int), Cond.fieldLink RX8 317 "GhostLayers$Tally" "lowerHits" "I", Cond.fieldLink RX8 320 "GhostLayers$Tally" "misses" "I"]
def wsL_law0_r53 : List Cond := [Cond.fieldLink RX8 323 "GhostLayers$Tally" "demoted" "I", Cond.methodLink RL 240 yX9_ahead, Cond.instanceMethod yX9_ahead, Cond.selects RX9 yX9_ahead yX9_ahead, Cond.code yX9_ahead cX9_ahead 7 (some .int), Cond.methodLink RX9 289 yX9_isPlan, Cond.static yX9_isPlan, Cond.code yX9_isPlan cX9_isPlan 3 (some .boolean), Cond.methodLink RX9 292 yX9_readAll, Cond.instanceMethod yX9_readAll, Cond.selects RX9 yX9_readAll yX9_readAll, Cond.code yX9_readAll cX9_readAll 7 none, Cond.methodLink RX9 296 yX9_numberFor, Cond.static yX9_numberFor, Cond.code yX9_numberFor cX9_numberFor 1 (some .int), Cond.methodLink RL 241 yL_bestLength, Cond.static yL_bestLength, Cond.codeWith yL_bestLength cL_bestLength 7 (some .int) [(0, 14, 17, 27), (0, 14, 21, 18)], Cond.methodLink RL 100 yX8_bestLength, Cond.instanceMethod yX8_bestLength, Cond.selects RX8 yX8_bestLength yX8_bestLength, Cond.code yX8_bestLength cX8_bestLength 9 (some .int), Cond.methodLink RL 244 yX9_bestLength, Cond.instanceMethod yX9_bestLength]
def wsL_law0_r54 : List Cond := [Cond.selects RX9 yX9_bestLength yX9_bestLength, Cond.code yX9_bestLength cX9_bestLength 9 (some .int), Cond.methodLink RL 245 yL_show, Cond.static yL_show, Cond.codeWith yL_show cL_show 4 (some .int) [(0, 9, 12, 27)], Cond.methodLink RL 104 yX8_show, Cond.instanceMethod yX8_show, Cond.selects RX8 yX8_show yX8_show, Cond.code yX8_show cX8_show 5 (some .int), Cond.fieldLink RX8 255 "GhostLayers$Page" "size" "I", Cond.fieldLink RX8 256 "GhostLayers$Row" "size" "I", Cond.methodLink RX8 257 yX4_addByte, Cond.instanceMethod yX4_addByte, Cond.selects RX4 yX4_addByte yX4_addByte, Cond.code yX4_addByte cX4_addByte 2 none, Cond.fieldLink RX4 15 "GhostLayers$Page" "size" "I", Cond.methodLink RX8 258 yX4_addNumber, Cond.instanceMethod yX4_addNumber, Cond.selects RX4 yX4_addNumber yX4_addNumber, Cond.code yX4_addNumber cX4_addNumber 2 none, Cond.methodLink RX4 19 yX4_addByte, Cond.methodLink RX8 261 yX0_isDirty, Cond.methodLink RL 247 yX9_show, Cond.instanceMethod yX9_show]
def wsL_law0_r55 : List Cond := [Cond.selects RX9 yX9_show yX9_show, Cond.code yX9_show cX9_show 4 (some .int), Cond.fieldLink RX9 299 "GhostLayersModel" "outputLength" "I", Cond.methodLink RX9 302 yX9_emit, Cond.instanceMethod yX9_emit, Cond.selects RX9 yX9_emit yX9_emit, Cond.code yX9_emit cX9_emit 2 none, Cond.methodLink RX9 305 yX9_writeNumber, Cond.instanceMethod yX9_writeNumber, Cond.selects RX9 yX9_writeNumber yX9_writeNumber, Cond.code yX9_writeNumber cX9_writeNumber 2 none, Cond.methodLink RL 248 yX8_output, Cond.instanceMethod yX8_output, Cond.selects RX8 yX8_output yX8_output, Cond.code yX8_output cX8_output 2 (some .int), Cond.methodLink RX8 264 yX4_byteAt, Cond.instanceMethod yX4_byteAt, Cond.selects RX4 yX4_byteAt yX4_byteAt, Cond.code yX4_byteAt cX4_byteAt 2 (some .int), Cond.methodLink RL 251 yX9_output, Cond.instanceMethod yX9_output, Cond.selects RX9 yX9_output yX9_output, Cond.code yX9_output cX9_output 2 (some .int), Cond.methodLink RL 252 yX8_undo]
def wsL_law0_r56 : List Cond := [Cond.instanceMethod yX8_undo, Cond.selects RX8 yX8_undo yX8_undo, Cond.code yX8_undo cX8_undo 1 (some .int), Cond.methodLink RX8 267 yX3_takeBack, Cond.instanceMethod yX3_takeBack, Cond.selects RX3 yX3_takeBack yX3_takeBack, Cond.code yX3_takeBack cX3_takeBack 4 (some .boolean), Cond.methodLink RL 255 yX9_undo, Cond.instanceMethod yX9_undo, Cond.selects RX9 yX9_undo yX9_undo, Cond.code yX9_undo cX9_undo 1 (some .int), Cond.methodLink RL 256 yL_save, Cond.static yL_save, Cond.codeWith yL_save cL_save 3 (some .int) [(0, 5, 8, 18)], Cond.methodLink RL 107 yX8_save, Cond.instanceMethod yX8_save, Cond.selects RX8 yX8_save yX8_save, Cond.code yX8_save cX8_save 3 none, Cond.methodLink RL 259 yX9_save, Cond.instanceMethod yX9_save, Cond.selects RX9 yX9_save yX9_save, Cond.code yX9_save cX9_save 2 none, Cond.methodLink RL 260 yL_restore, Cond.static yL_restore]
def wsL_law0_r57 : List Cond := [Cond.codeWith yL_restore cL_restore 3 (some .int) [(0, 5, 8, 18), (0, 5, 11, 13)], Cond.methodLink RL 111 yX8_restore, Cond.instanceMethod yX8_restore, Cond.selects RX8 yX8_restore yX8_restore, Cond.code yX8_restore cX8_restore 3 none, Cond.methodLink RL 262 yX9_restore, Cond.instanceMethod yX9_restore, Cond.selects RX9 yX9_restore yX9_restore, Cond.code yX9_restore cX9_restore 2 none]
def wsL_law0 : List Cond := (wsL_law0_r1 ++ (wsL_law0_r2 ++ (wsL_law0_r3 ++ (wsL_law0_r4 ++ (wsL_law0_r5 ++ (wsL_law0_r6 ++ (wsL_law0_r7 ++ (wsL_law0_r8 ++ (wsL_law0_r9 ++ (wsL_law0_r10 ++ (wsL_law0_r11 ++ (wsL_law0_r12 ++ (wsL_law0_r13 ++ (wsL_law0_r14 ++ (wsL_law0_r15 ++ (wsL_law0_r16 ++ (wsL_law0_r17 ++ (wsL_law0_r18 ++ (wsL_law0_r19 ++ (wsL_law0_r20 ++ (wsL_law0_r21 ++ (wsL_law0_r22 ++ (wsL_law0_r23 ++ (wsL_law0_r24 ++ (wsL_law0_r25 ++ (wsL_law0_r26 ++ (wsL_law0_r27 ++ (wsL_law0_r28 ++ (wsL_law0_r29 ++ (wsL_law0_r30 ++ (wsL_law0_r31 ++ (wsL_law0_r32 ++ (wsL_law0_r33 ++ (wsL_law0_r34 ++ (wsL_law0_r35 ++ (wsL_law0_r36 ++ (wsL_law0_r37 ++ (wsL_law0_r38 ++ (wsL_law0_r39 ++ (wsL_law0_r40 ++ (wsL_law0_r41 ++ (wsL_law0_r42 ++ (wsL_law0_r43 ++ (wsL_law0_r44 ++ (wsL_law0_r45 ++ (wsL_law0_r46 ++ (wsL_law0_r47 ++ (wsL_law0_r48 ++ (wsL_law0_r49 ++ (wsL_law0_r50 ++ (wsL_law0_r51 ++ (wsL_law0_r52 ++ (wsL_law0_r53 ++ (wsL_law0_r54 ++ (wsL_law0_r55 ++ (wsL_law0_r56 ++ wsL_law0_r57)))))))))))))))))))))))))))))))))))))))))))))))))))))))) ++ wsX80 ++ wsX90 ++ wsX70 ++ wsX40 ++ wsX10 ++ wsX30 ++ wsX00 ++ wsX60 ++ wsX50 ++ wsX20 ++ ([] : List Cond)
def wsL_law : List Cond := wsL_law0 ++ (vx_atS RX8 52 "java/lang/IllegalStateException" ["java/lang/RuntimeException", "java/lang/Exception"]).filter goodWord ++ (vx_atS RX8 234 "java/lang/IllegalArgumentException" ["java/lang/RuntimeException", "java/lang/Exception"]).filter goodWord ++ (vx_atS RX8 279 "java/lang/IndexOutOfBoundsException" ["java/lang/RuntimeException", "java/lang/Exception"]).filter goodWord
theorem inP {big : List Cond} (ws : List Cond) (ps : List Nat) (hp : ws = ps.filterMap (fun i => big[i]?)) : ∀ w ∈ ws, w ∈ big := fun w hw => by
  rw [hp] at hw
  obtain ⟨i, -, hi⟩ := List.mem_filterMap.mp hw
  exact List.mem_of_getElem? hi
set_option maxRecDepth 20000 in
theorem wq_wsL_law0_r1 : ∀ w ∈ wsL_law0_r1, w ∈ lw_tbl := inP wsL_law0_r1 [105, 106, 83, 1257, 1258, 92, 1742, 1743, 107, 108, 109, 110, 111, 112, 113, 114, 84, 399, 168, 169, 85, 400, 182, 183] (by decide +kernel)
set_option maxRecDepth 20000 in
theorem wq_wsL_law0_r2 : ∀ w ∈ wsL_law0_r2, w ∈ lw_tbl := inP wsL_law0_r2 [86, 401, 402, 379, 380, 91, 403, 404, 115, 116, 117, 118, 167, 135, 119, 121, 123, 125, 133, 170, 171, 172, 173, 174] (by decide +kernel)
set_option maxRecDepth 20000 in
theorem wq_wsL_law0_r3 : ∀ w ∈ wsL_law0_r3, w ∈ lw_tbl := inP wsL_law0_r3 [184, 185, 186, 187, 188, 189, 87, 327, 222, 223, 88, 329, 277, 278, 89, 331, 332, 333, 334, 335, 337, 292, 336, 294] (by decide +kernel)
set_option maxRecDepth 20000 in
theorem wq_wsL_law0_r4 : ∀ w ∈ wsL_law0_r4, w ∈ lw_tbl := inP wsL_law0_r4 [90, 340, 342, 343, 345, 190, 191, 192, 193, 194, 195, 196, 197, 198, 199, 224, 225, 226, 227, 248, 251, 279, 280, 281] (by decide +kernel)
set_option maxRecDepth 20000 in
theorem wq_wsL_law0_r5 : ∀ w ∈ wsL_law0_r5, w ∈ lw_tbl := inP wsL_law0_r5 [282, 283, 295, 296, 297, 298, 303, 381, 382, 383, 384, 385, 388, 387, 1259, 1260, 1261, 1262, 1267, 1268, 1269, 1270, 1337, 1271] (by decide +kernel)
set_option maxRecDepth 20000 in
theorem wq_wsL_law0_r6 : ∀ w ∈ wsL_law0_r6, w ∈ lw_tbl := inP wsL_law0_r6 [1274, 1275, 1284, 1288, 1263, 1265, 29, 1266, 781, 782, 82, 783, 784, 785, 786, 787, 788, 789, 96, 130, 856, 857, 858, 859] (by decide +kernel)
set_option maxRecDepth 20000 in
theorem wq_wsL_law0_r7 : ∀ w ∈ wsL_law0_r7, w ∈ lw_tbl := inP wsL_law0_r7 [129, 1342, 1343, 1344, 1345, 1273, 1277, 1346, 1348, 30, 1349, 1338, 1339, 1340, 1341, 860, 861, 862, 863, 864, 865, 866, 867, 868] (by decide +kernel)
set_option maxRecDepth 20000 in
theorem wq_wsL_law0_r8 : ∀ w ∈ wsL_law0_r8, w ∈ lw_tbl := inP wsL_law0_r8 [869, 870, 871, 97, 1350, 1351, 1352, 1353, 1354, 1355, 1356, 418, 419, 420, 421, 330, 229, 128, 422, 423, 424, 425, 127, 136] (by decide +kernel)
set_option maxRecDepth 20000 in
theorem wq_wsL_law0_r9 : ∀ w ∈ wsL_law0_r9, w ∈ lw_tbl := inP wsL_law0_r9 [131, 137, 426, 428, 0, 429, 138, 430, 432, 1, 433, 434, 435, 436, 437, 438, 439, 440, 442, 2, 443, 445, 447, 3] (by decide +kernel)
set_option maxRecDepth 20000 in
theorem wq_wsL_law0_r10 : ∀ w ∈ wsL_law0_r10, w ∈ lw_tbl := inP wsL_law0_r10 [448, 449, 450, 451, 98, 452, 1745, 453, 454, 455, 456, 457, 1746, 459, 460, 461, 462, 463, 464, 465, 466, 467, 468, 99] (by decide +kernel)
set_option maxRecDepth 20000 in
theorem wq_wsL_law0_r11 : ∀ w ∈ wsL_law0_r11, w ∈ lw_tbl := inP wsL_law0_r11 [469, 470, 471, 472, 473, 475, 476, 100, 477, 478, 479, 101, 480, 481, 482, 483, 484, 485, 486, 487, 488, 489, 490, 491] (by decide +kernel)
set_option maxRecDepth 20000 in
theorem wq_wsL_law0_r12 : ∀ w ∈ wsL_law0_r12, w ∈ lw_tbl := inP wsL_law0_r12 [493, 495, 500, 501, 502, 503, 505, 4, 506, 139, 507, 508, 102, 509, 510, 512, 5, 513, 514, 516, 6, 517, 518, 520] (by decide +kernel)
set_option maxRecDepth 20000 in
theorem wq_wsL_law0_r13 : ∀ w ∈ wsL_law0_r13, w ∈ lw_tbl := inP wsL_law0_r13 [7, 521, 522, 524, 8, 525, 526, 527, 528, 529, 389, 390, 561, 530, 531, 532, 533, 338, 346, 534, 535, 536, 537, 538] (by decide +kernel)
set_option maxRecDepth 20000 in
theorem wq_wsL_law0_r14 : ∀ w ∈ wsL_law0_r14, w ∈ lw_tbl := inP wsL_law0_r14 [540, 539, 103, 201, 204, 541, 542, 543, 544, 228, 231, 233, 235, 237, 239, 241, 244, 246, 545, 546, 547, 548, 284, 549] (by decide +kernel)
set_option maxRecDepth 20000 in
theorem wq_wsL_law0_r15 : ∀ w ∈ wsL_law0_r15, w ∈ lw_tbl := inP wsL_law0_r15 [550, 551, 552, 553, 555, 9, 556, 557, 558, 559, 560, 299, 301, 305, 306, 307, 308, 309, 562, 564, 10, 565, 120, 124] (by decide +kernel)
set_option maxRecDepth 20000 in
theorem wq_wsL_law0_r16 : ∀ w ∈ wsL_law0_r16, w ∈ lw_tbl := inP wsL_law0_r16 [126, 328, 122, 339, 566, 567, 568, 569, 570, 571, 572, 573, 574, 575, 576, 577, 578, 579, 580, 581, 582, 583, 584, 585] (by decide +kernel)
set_option maxRecDepth 20000 in
theorem wq_wsL_law0_r17 : ∀ w ∈ wsL_law0_r17, w ∈ lw_tbl := inP wsL_law0_r17 [586, 587, 588, 589, 302, 304, 590, 591, 592, 593, 594, 596, 11, 597, 598, 599, 600, 601, 602, 603, 604, 605, 606, 607] (by decide +kernel)
set_option maxRecDepth 20000 in
theorem wq_wsL_law0_r18 : ∀ w ∈ wsL_law0_r18, w ∈ lw_tbl := inP wsL_law0_r18 [608, 609, 610, 612, 12, 613, 614, 615, 616, 617, 618, 619, 620, 621, 622, 623, 624, 625, 626, 627, 628, 629, 630, 632] (by decide +kernel)
set_option maxRecDepth 20000 in
theorem wq_wsL_law0_r19 : ∀ w ∈ wsL_law0_r19, w ∈ lw_tbl := inP wsL_law0_r19 [13, 633, 634, 636, 14, 637, 245, 252, 638, 639, 640, 641, 285, 642, 643, 644, 645, 646, 647, 648, 649, 650, 651, 652] (by decide +kernel)
set_option maxRecDepth 20000 in
theorem wq_wsL_law0_r20 : ∀ w ∈ wsL_law0_r20, w ∈ lw_tbl := inP wsL_law0_r20 [653, 655, 15, 656, 657, 658, 659, 660, 661, 663, 16, 664, 238, 665, 666, 667, 668, 240, 669, 671, 17, 672, 673, 674] (by decide +kernel)
set_option maxRecDepth 20000 in
theorem wq_wsL_law0_r21 : ∀ w ∈ wsL_law0_r21, w ∈ lw_tbl := inP wsL_law0_r21 [675, 676, 677, 678, 679, 680, 681, 683, 18, 684, 685, 687, 19, 688, 689, 690, 691, 692, 693, 694, 695, 696, 300, 697] (by decide +kernel)
set_option maxRecDepth 20000 in
theorem wq_wsL_law0_r22 : ∀ w ∈ wsL_law0_r22, w ∈ lw_tbl := inP wsL_law0_r22 [698, 699, 700, 701, 703, 20, 704, 242, 249, 705, 706, 707, 708, 709, 710, 711, 712, 230, 713, 714, 715, 716, 717, 718] (by decide +kernel)
set_option maxRecDepth 20000 in
theorem wq_wsL_law0_r23 : ∀ w ∈ wsL_law0_r23, w ∈ lw_tbl := inP wsL_law0_r23 [719, 720, 721, 1357, 1358, 1359, 1360, 1283, 1278, 1276, 1280, 1361, 1363, 31, 1364, 1279, 1281, 1285, 1282, 1372, 1373, 1377, 1365, 1367] (by decide +kernel)
set_option maxRecDepth 20000 in
theorem wq_wsL_law0_r24 : ∀ w ∈ wsL_law0_r24, w ∈ lw_tbl := inP wsL_law0_r24 [32, 1368, 1369, 1370, 1371, 1374, 1375, 1376, 1378, 1380, 33, 1381, 1382, 1384, 34, 1385, 1387, 1389, 35, 1390, 1391, 1392, 1395, 1397] (by decide +kernel)
set_option maxRecDepth 20000 in
theorem wq_wsL_law0_r25 : ∀ w ∈ wsL_law0_r25, w ∈ lw_tbl := inP wsL_law0_r25 [36, 1398, 1399, 1401, 37, 1402, 1403, 1405, 38, 1406, 1407, 1409, 39, 1410, 1412, 1414, 40, 1415, 1272, 1416, 1417, 1418, 1419, 1421] (by decide +kernel)
set_option maxRecDepth 20000 in
theorem wq_wsL_law0_r26 : ∀ w ∈ wsL_law0_r26, w ∈ lw_tbl := inP wsL_law0_r26 [41, 1422, 1423, 1425, 42, 1426, 1427, 1429, 43, 1430, 1431, 1433, 44, 1434, 1435, 1437, 45, 1438, 1439, 1441, 46, 1442, 1443, 1445] (by decide +kernel)
set_option maxRecDepth 20000 in
theorem wq_wsL_law0_r27 : ∀ w ∈ wsL_law0_r27, w ∈ lw_tbl := inP wsL_law0_r27 [47, 1446, 1447, 1449, 48, 1450, 1515, 1451, 1453, 49, 1454, 1455, 1457, 50, 1458, 1459, 1461, 51, 1462, 1463, 1465, 52, 1466, 1467] (by decide +kernel)
set_option maxRecDepth 20000 in
theorem wq_wsL_law0_r28 : ∀ w ∈ wsL_law0_r28, w ∈ lw_tbl := inP wsL_law0_r28 [1469, 53, 1470, 1471, 1473, 54, 1474, 1475, 1477, 55, 1478, 1479, 1481, 56, 1482, 1483, 1485, 57, 1486, 1487, 1489, 58, 1490, 1491] (by decide +kernel)
set_option maxRecDepth 20000 in
theorem wq_wsL_law0_r29 : ∀ w ∈ wsL_law0_r29, w ∈ lw_tbl := inP wsL_law0_r29 [1493, 59, 1494, 1495, 1497, 60, 1498, 1287, 1499, 1501, 61, 1502, 1503, 1505, 62, 1506, 1507, 1509, 63, 1510, 1511, 1513, 64, 1514] (by decide +kernel)
set_option maxRecDepth 20000 in
theorem wq_wsL_law0_r30 : ∀ w ∈ wsL_law0_r30, w ∈ lw_tbl := inP wsL_law0_r30 [1516, 1517, 1519, 65, 1520, 1521, 1523, 66, 1524, 1286, 1525, 1527, 67, 1528, 1529, 1531, 68, 1532, 1533, 1535, 69, 1536, 1537, 1539] (by decide +kernel)
set_option maxRecDepth 20000 in
theorem wq_wsL_law0_r31 : ∀ w ∈ wsL_law0_r31, w ∈ lw_tbl := inP wsL_law0_r31 [70, 1540, 1541, 1543, 71, 1544, 1545, 1547, 72, 1548, 1549, 1551, 73, 1552, 1553, 1555, 74, 1556, 723, 724, 725, 726, 132, 1557] (by decide +kernel)
set_option maxRecDepth 20000 in
theorem wq_wsL_law0_r32 : ∀ w ∈ wsL_law0_r32, w ∈ lw_tbl := inP wsL_law0_r32 [1558, 1559, 1560, 727, 728, 729, 730, 134, 1561, 1562, 1563, 1564, 887, 888, 889, 890, 891, 892, 893, 895, 896, 897, 898, 899] (by decide +kernel)
set_option maxRecDepth 20000 in
theorem wq_wsL_law0_r33 : ∀ w ∈ wsL_law0_r33, w ∈ lw_tbl := inP wsL_law0_r33 [900, 901, 902, 1565, 1566, 1567, 1568, 903, 904, 905, 906, 907, 908, 909, 910, 911, 913, 22, 914, 915, 916, 917, 918, 104] (by decide +kernel)
set_option maxRecDepth 20000 in
theorem wq_wsL_law0_r34 : ∀ w ∈ wsL_law0_r34, w ∈ lw_tbl := inP wsL_law0_r34 [934, 935, 936, 937, 1569, 1570, 1571, 1572, 938, 939, 940, 941, 942, 943, 944, 945, 946, 947, 948, 1573, 1574, 1575, 1576, 949] (by decide +kernel)
set_option maxRecDepth 20000 in
theorem wq_wsL_law0_r35 : ∀ w ∈ wsL_law0_r35, w ∈ lw_tbl := inP wsL_law0_r35 [950, 951, 952, 953, 954, 955, 956, 957, 958, 959, 960, 961, 962, 963, 1577, 1578, 1579, 1580, 964, 965, 966, 967, 968, 969] (by decide +kernel)
set_option maxRecDepth 20000 in
theorem wq_wsL_law0_r36 : ∀ w ∈ wsL_law0_r36, w ∈ lw_tbl := inP wsL_law0_r36 [970, 391, 971, 972, 973, 974, 200, 202, 975, 976, 977, 978, 1600, 1601, 1602, 1603, 979, 980, 981, 982, 983, 984, 985, 986] (by decide +kernel)
set_option maxRecDepth 20000 in
theorem wq_wsL_law0_r37 : ∀ w ∈ wsL_law0_r37, w ∈ lw_tbl := inP wsL_law0_r37 [987, 988, 989, 990, 991, 992, 993, 994, 996, 23, 997, 998, 999, 1000, 1001, 1604, 1605, 1606, 1607, 1002, 1003, 1004, 1005, 1006] (by decide +kernel)
set_option maxRecDepth 20000 in
theorem wq_wsL_law0_r38 : ∀ w ∈ wsL_law0_r38, w ∈ lw_tbl := inP wsL_law0_r38 [1007, 1008, 1009, 1010, 1011, 1012, 1013, 1015, 24, 1016, 1017, 1018, 1019, 1020, 1021, 1022, 1023, 1024, 1025, 754, 755, 756, 1026, 1027] (by decide +kernel)
set_option maxRecDepth 20000 in
theorem wq_wsL_law0_r39 : ∀ w ∈ wsL_law0_r39, w ∈ lw_tbl := inP wsL_law0_r39 [1028, 1029, 1608, 1609, 1610, 1611, 1585, 1586, 1587, 1030, 1031, 1032, 1033, 1034, 1035, 1036, 1037, 1038, 1039, 1041, 1042, 1612, 1613, 1614] (by decide +kernel)
set_option maxRecDepth 20000 in
theorem wq_wsL_law0_r40 : ∀ w ∈ wsL_law0_r40, w ∈ lw_tbl := inP wsL_law0_r40 [1615, 1616, 1618, 75, 1619, 1043, 1044, 1045, 1046, 1047, 1048, 1049, 1050, 1581, 1582, 1583, 1584, 1051, 1052, 1053, 1054, 1055, 1056, 1057] (by decide +kernel)
set_option maxRecDepth 20000 in
theorem wq_wsL_law0_r41 : ∀ w ∈ wsL_law0_r41, w ∈ lw_tbl := inP wsL_law0_r41 [203, 1588, 1589, 1590, 1591, 1058, 1059, 1060, 1061, 1062, 1063, 1064, 1592, 1593, 1594, 1595, 1065, 1066, 1067, 1068, 1069, 1070, 1071, 1072] (by decide +kernel)
set_option maxRecDepth 20000 in
theorem wq_wsL_law0_r42 : ∀ w ∈ wsL_law0_r42, w ∈ lw_tbl := inP wsL_law0_r42 [1073, 1074, 1075, 1596, 1597, 1598, 1599, 1076, 1077, 1078, 1079, 1080, 1081, 1082, 344, 1083, 1084, 1085, 1086, 1087, 1620, 1621, 1622, 1623] (by decide +kernel)
set_option maxRecDepth 20000 in
theorem wq_wsL_law0_r43 : ∀ w ∈ wsL_law0_r43, w ∈ lw_tbl := inP wsL_law0_r43 [731, 732, 733, 734, 232, 1624, 1625, 1626, 1627, 1088, 1089, 1090, 1091, 1092, 1093, 1094, 1095, 1628, 1629, 1630, 1631, 735, 736, 737] (by decide +kernel)
set_option maxRecDepth 20000 in
theorem wq_wsL_law0_r44 : ∀ w ∈ wsL_law0_r44, w ∈ lw_tbl := inP wsL_law0_r44 [738, 739, 1632, 1633, 1634, 1635, 740, 741, 742, 743, 744, 1636, 1637, 1638, 1639, 745, 746, 747, 748, 749, 750, 751, 752, 753] (by decide +kernel)
set_option maxRecDepth 20000 in
theorem wq_wsL_law0_r45 : ∀ w ∈ wsL_law0_r45, w ∈ lw_tbl := inP wsL_law0_r45 [1640, 1641, 1642, 1643, 1096, 1097, 1098, 1099, 1100, 1101, 1102, 1103, 1104, 1105, 1106, 1644, 1645, 1646, 1647, 1107, 1108, 1109, 1110, 1111] (by decide +kernel)
set_option maxRecDepth 20000 in
theorem wq_wsL_law0_r46 : ∀ w ∈ wsL_law0_r46, w ∈ lw_tbl := inP wsL_law0_r46 [1112, 1113, 1114, 1115, 1116, 1117, 1648, 1649, 1650, 1651, 1118, 1119, 1120, 1121, 1122, 1123, 1124, 1125, 1126, 1652, 1653, 1654, 1655, 1127] (by decide +kernel)
set_option maxRecDepth 20000 in
theorem wq_wsL_law0_r47 : ∀ w ∈ wsL_law0_r47, w ∈ lw_tbl := inP wsL_law0_r47 [1128, 1129, 1130, 1131, 1132, 1133, 341, 1138, 1134, 1135, 1136, 1137, 1656, 1657, 1658, 1659, 1660, 1662, 76, 1663, 1139, 1140, 1141, 1142] (by decide +kernel)
set_option maxRecDepth 20000 in
theorem wq_wsL_law0_r48 : ∀ w ∈ wsL_law0_r48, w ∈ lw_tbl := inP wsL_law0_r48 [1143, 1144, 1145, 1146, 1147, 1148, 1149, 1664, 1665, 1666, 1667, 1150, 1151, 1152, 1153, 1154, 1155, 1156, 1157, 1158, 1159, 1160, 1668, 1669] (by decide +kernel)
set_option maxRecDepth 20000 in
theorem wq_wsL_law0_r49 : ∀ w ∈ wsL_law0_r49, w ∈ lw_tbl := inP wsL_law0_r49 [1670, 1671, 1161, 1162, 1163, 1164, 1165, 1166, 1167, 1168, 1169, 1170, 1171, 1172, 1672, 1673, 1674, 1675, 1676, 1678, 77, 1679, 757, 758] (by decide +kernel)
set_option maxRecDepth 20000 in
theorem wq_wsL_law0_r50 : ∀ w ∈ wsL_law0_r50, w ∈ lw_tbl := inP wsL_law0_r50 [759, 760, 761, 762, 763, 764, 1680, 1681, 1682, 1683, 1173, 1174, 1175, 1176, 1177, 1178, 1179, 1180, 1181, 1182, 1183, 1684, 1685, 1686] (by decide +kernel)
set_option maxRecDepth 20000 in
theorem wq_wsL_law0_r51 : ∀ w ∈ wsL_law0_r51, w ∈ lw_tbl := inP wsL_law0_r51 [1687, 1184, 1185, 1186, 1187, 1188, 1189, 1190, 1191, 1192, 1194, 25, 1195, 247, 250, 253, 347, 1196, 1688, 1689, 1690, 1691, 1692, 1694] (by decide +kernel)
set_option maxRecDepth 20000 in
theorem wq_wsL_law0_r52 : ∀ w ∈ wsL_law0_r52, w ∈ lw_tbl := inP wsL_law0_r52 [78, 1695, 1197, 1198, 1199, 1200, 1201, 1202, 1203, 1204, 1206, 26, 1207, 1208, 1209, 1211, 27, 1212, 1213, 1215, 28, 1216, 234, 236] (by decide +kernel)
set_option maxRecDepth 20000 in
theorem wq_wsL_law0_r53 : ∀ w ∈ wsL_law0_r53, w ∈ lw_tbl := inP wsL_law0_r53 [243, 1696, 1697, 1698, 1699, 1700, 1701, 1702, 1703, 1705, 79, 1706, 1707, 1708, 1709, 1217, 1218, 1219, 1220, 1221, 1222, 1223, 1710, 1711] (by decide +kernel)
set_option maxRecDepth 20000 in
theorem wq_wsL_law0_r54 : ∀ w ∈ wsL_law0_r54, w ∈ lw_tbl := inP wsL_law0_r54 [1712, 1713, 1224, 1225, 1226, 1227, 1228, 1229, 1230, 176, 286, 1231, 1232, 1233, 1234, 175, 1235, 1236, 1237, 1238, 1239, 1240, 1714, 1715] (by decide +kernel)
set_option maxRecDepth 20000 in
theorem wq_wsL_law0_r55 : ∀ w ∈ wsL_law0_r55, w ∈ lw_tbl := inP wsL_law0_r55 [1716, 1717, 1289, 1718, 1720, 80, 1721, 1722, 1724, 81, 1725, 765, 766, 767, 768, 769, 770, 771, 772, 1726, 1727, 1728, 1729, 773] (by decide +kernel)
set_option maxRecDepth 20000 in
theorem wq_wsL_law0_r56 : ∀ w ∈ wsL_law0_r56, w ∈ lw_tbl := inP wsL_law0_r56 [774, 775, 776, 777, 778, 779, 780, 1730, 1731, 1732, 1733, 1241, 1242, 1243, 1244, 1245, 1246, 1247, 1734, 1735, 1736, 1737, 1249, 1250] (by decide +kernel)
set_option maxRecDepth 20000 in
theorem wq_wsL_law0_r57 : ∀ w ∈ wsL_law0_r57, w ∈ lw_tbl := inP wsL_law0_r57 [1251, 1252, 1253, 1254, 1255, 1738, 1739, 1740, 1741] (by decide +kernel)
set_option maxRecDepth 20000 in
theorem wq_wsX80 : ∀ w ∈ wsX80, w ∈ lw_tbl := inP wsX80 [405, 407, 409, 411, 413, 415] (by decide +kernel)
set_option maxRecDepth 20000 in
theorem wq_wsX90 : ∀ w ∈ wsX90, w ∈ lw_tbl := inP wsX90 [1290, 1292, 1294, 1296, 1298, 1300, 1302, 1304, 1306, 1308, 1310, 1312, 1314, 1316, 1318, 1320, 1322, 1324, 1326, 1328, 1330, 1332, 1334] (by decide +kernel)
set_option maxRecDepth 20000 in
theorem wq_wsX70 : ∀ w ∈ wsX70, w ∈ lw_tbl := inP wsX70 [140, 142, 144, 146, 148, 150, 152, 154, 156, 158, 160, 162, 164] (by decide +kernel)
set_option maxRecDepth 20000 in
theorem wq_wsX40 : ∀ w ∈ wsX40, w ∈ lw_tbl := inP wsX40 [177, 179] (by decide +kernel)
set_option maxRecDepth 20000 in
theorem wq_wsX10 : ∀ w ∈ wsX10, w ∈ lw_tbl := inP wsX10 [348, 350, 352, 354, 356, 358, 360, 362, 364, 366, 368, 370, 372, 374, 376] (by decide +kernel)
set_option maxRecDepth 20000 in
theorem wq_wsX30 : ∀ w ∈ wsX30, w ∈ lw_tbl := inP wsX30 [392, 394, 396] (by decide +kernel)
set_option maxRecDepth 20000 in
theorem wq_wsX00 : ∀ w ∈ wsX00, w ∈ lw_tbl := inP wsX00 [205, 207, 209, 211, 213, 215, 217, 219] (by decide +kernel)
set_option maxRecDepth 20000 in
theorem wq_wsX60 : ∀ w ∈ wsX60, w ∈ lw_tbl := inP wsX60 [254, 256, 258, 260, 262, 264, 266, 268, 270, 272, 274] (by decide +kernel)
set_option maxRecDepth 20000 in
theorem wq_wsX50 : ∀ w ∈ wsX50, w ∈ lw_tbl := inP wsX50 [287, 289] (by decide +kernel)
set_option maxRecDepth 20000 in
theorem wq_wsX20 : ∀ w ∈ wsX20, w ∈ lw_tbl := inP wsX20 [310, 312, 314, 316, 318, 320, 322, 324] (by decide +kernel)
theorem wsL_law_in0 : ∀ w ∈ wsL_law0, w ∈ lw_tbl := (fun w h => (List.mem_append.mp h).elim ((fun w h => (List.mem_append.mp h).elim ((fun w h => (List.mem_append.mp h).elim ((fun w h => (List.mem_append.mp h).elim ((fun w h => (List.mem_append.mp h).elim ((fun w h => (List.mem_append.mp h).elim ((fun w h => (List.mem_append.mp h).elim ((fun w h => (List.mem_append.mp h).elim ((fun w h => (List.mem_append.mp h).elim ((fun w h => (List.mem_append.mp h).elim ((fun w h => (List.mem_append.mp h).elim ((fun w h => (List.mem_append.mp h).elim (wq_wsL_law0_r1 w) ((fun w h => (List.mem_append.mp h).elim (wq_wsL_law0_r2 w) ((fun w h => (List.mem_append.mp h).elim (wq_wsL_law0_r3 w) ((fun w h => (List.mem_append.mp h).elim (wq_wsL_law0_r4 w) ((fun w h => (List.mem_append.mp h).elim (wq_wsL_law0_r5 w) ((fun w h => (List.mem_append.mp h).elim (wq_wsL_law0_r6 w) ((fun w h => (List.mem_append.mp h).elim (wq_wsL_law0_r7 w) ((fun w h => (List.mem_append.mp h).elim (wq_wsL_law0_r8 w) ((fun w h => (List.mem_append.mp h).elim (wq_wsL_law0_r9 w) ((fun w h => (List.mem_append.mp h).elim (wq_wsL_law0_r10 w) ((fun w h => (List.mem_append.mp h).elim (wq_wsL_law0_r11 w) ((fun w h => (List.mem_append.mp h).elim (wq_wsL_law0_r12 w) ((fun w h => (List.mem_append.mp h).elim (wq_wsL_law0_r13 w) ((fun w h => (List.mem_append.mp h).elim (wq_wsL_law0_r14 w) ((fun w h => (List.mem_append.mp h).elim (wq_wsL_law0_r15 w) ((fun w h => (List.mem_append.mp h).elim (wq_wsL_law0_r16 w) ((fun w h => (List.mem_append.mp h).elim (wq_wsL_law0_r17 w) ((fun w h => (List.mem_append.mp h).elim (wq_wsL_law0_r18 w) ((fun w h => (List.mem_append.mp h).elim (wq_wsL_law0_r19 w) ((fun w h => (List.mem_append.mp h).elim (wq_wsL_law0_r20 w) ((fun w h => (List.mem_append.mp h).elim (wq_wsL_law0_r21 w) ((fun w h => (List.mem_append.mp h).elim (wq_wsL_law0_r22 w) ((fun w h => (List.mem_append.mp h).elim (wq_wsL_law0_r23 w) ((fun w h => (List.mem_append.mp h).elim (wq_wsL_law0_r24 w) ((fun w h => (List.mem_append.mp h).elim (wq_wsL_law0_r25 w) ((fun w h => (List.mem_append.mp h).elim (wq_wsL_law0_r26 w) ((fun w h => (List.mem_append.mp h).elim (wq_wsL_law0_r27 w) ((fun w h => (List.mem_append.mp h).elim (wq_wsL_law0_r28 w) ((fun w h => (List.mem_append.mp h).elim (wq_wsL_law0_r29 w) ((fun w h => (List.mem_append.mp h).elim (wq_wsL_law0_r30 w) ((fun w h => (List.mem_append.mp h).elim (wq_wsL_law0_r31 w) ((fun w h => (List.mem_append.mp h).elim (wq_wsL_law0_r32 w) ((fun w h => (List.mem_append.mp h).elim (wq_wsL_law0_r33 w) ((fun w h => (List.mem_append.mp h).elim (wq_wsL_law0_r34 w) ((fun w h => (List.mem_append.mp h).elim (wq_wsL_law0_r35 w) ((fun w h => (List.mem_append.mp h).elim (wq_wsL_law0_r36 w) ((fun w h => (List.mem_append.mp h).elim (wq_wsL_law0_r37 w) ((fun w h => (List.mem_append.mp h).elim (wq_wsL_law0_r38 w) ((fun w h => (List.mem_append.mp h).elim (wq_wsL_law0_r39 w) ((fun w h => (List.mem_append.mp h).elim (wq_wsL_law0_r40 w) ((fun w h => (List.mem_append.mp h).elim (wq_wsL_law0_r41 w) ((fun w h => (List.mem_append.mp h).elim (wq_wsL_law0_r42 w) ((fun w h => (List.mem_append.mp h).elim (wq_wsL_law0_r43 w) ((fun w h => (List.mem_append.mp h).elim (wq_wsL_law0_r44 w) ((fun w h => (List.mem_append.mp h).elim (wq_wsL_law0_r45 w) ((fun w h => (List.mem_append.mp h).elim (wq_wsL_law0_r46 w) ((fun w h => (List.mem_append.mp h).elim (wq_wsL_law0_r47 w) ((fun w h => (List.mem_append.mp h).elim (wq_wsL_law0_r48 w) ((fun w h => (List.mem_append.mp h).elim (wq_wsL_law0_r49 w) ((fun w h => (List.mem_append.mp h).elim (wq_wsL_law0_r50 w) ((fun w h => (List.mem_append.mp h).elim (wq_wsL_law0_r51 w) ((fun w h => (List.mem_append.mp h).elim (wq_wsL_law0_r52 w) ((fun w h => (List.mem_append.mp h).elim (wq_wsL_law0_r53 w) ((fun w h => (List.mem_append.mp h).elim (wq_wsL_law0_r54 w) ((fun w h => (List.mem_append.mp h).elim (wq_wsL_law0_r55 w) ((fun w h => (List.mem_append.mp h).elim (wq_wsL_law0_r56 w) (wq_wsL_law0_r57 w)) w)) w)) w)) w)) w)) w)) w)) w)) w)) w)) w)) w)) w)) w)) w)) w)) w)) w)) w)) w)) w)) w)) w)) w)) w)) w)) w)) w)) w)) w)) w)) w)) w)) w)) w)) w)) w)) w)) w)) w)) w)) w)) w)) w)) w)) w)) w)) w)) w)) w)) w)) w)) w)) w)) w)) w) (wq_wsX80 w)) w) (wq_wsX90 w)) w) (wq_wsX70 w)) w) (wq_wsX40 w)) w) (wq_wsX10 w)) w) (wq_wsX30 w)) w) (wq_wsX00 w)) w) (wq_wsX60 w)) w) (wq_wsX50 w)) w) (wq_wsX20 w)) w) (fun h => absurd h List.not_mem_nil))
theorem wsL_law_x0 : ∀ w ∈ (vx_atS RX8 52 "java/lang/IllegalStateException" ["java/lang/RuntimeException", "java/lang/Exception"]).filter goodWord, w ∈ lw_tbl := by decide +kernel
theorem wsL_law_x1 : ∀ w ∈ (vx_atS RX8 234 "java/lang/IllegalArgumentException" ["java/lang/RuntimeException", "java/lang/Exception"]).filter goodWord, w ∈ lw_tbl := by decide +kernel
theorem wsL_law_x2 : ∀ w ∈ (vx_atS RX8 279 "java/lang/IndexOutOfBoundsException" ["java/lang/RuntimeException", "java/lang/Exception"]).filter goodWord, w ∈ lw_tbl := by decide +kernel
theorem wsL_law_in : ∀ w ∈ wsL_law, w ∈ lw_tbl := fun w h => (List.mem_append.mp h).elim (fun h => (List.mem_append.mp h).elim (fun h => (List.mem_append.mp h).elim (fun h => wsL_law_in0 w h) (fun h => wsL_law_x0 w h)) (fun h => wsL_law_x1 w h)) (fun h => wsL_law_x2 w h)
theorem inlX0 : ∀ w ∈ wsX00, w ∈ wsL_law := fun _ h => List.mem_append_left _ (List.mem_append_left _ (List.mem_append_left _ (List.mem_append_left _ (List.mem_append_left _ (List.mem_append_left _ (List.mem_append_left _ (List.mem_append_right _ h)))))))
theorem inX0 : ∀ w ∈ wsX00, w ∈ lw_tbl := fun w h => wsL_law_in w (inlX0 w h)
theorem inlX1 : ∀ w ∈ wsX10, w ∈ wsL_law := fun _ h => List.mem_append_left _ (List.mem_append_left _ (List.mem_append_left _ (List.mem_append_left _ (List.mem_append_left _ (List.mem_append_left _ (List.mem_append_left _ (List.mem_append_left _ (List.mem_append_left _ (List.mem_append_right _ h)))))))))
theorem inX1 : ∀ w ∈ wsX10, w ∈ lw_tbl := fun w h => wsL_law_in w (inlX1 w h)
theorem inlX2 : ∀ w ∈ wsX20, w ∈ wsL_law := fun _ h => List.mem_append_left _ (List.mem_append_left _ (List.mem_append_left _ (List.mem_append_left _ (List.mem_append_right _ h))))
theorem inX2 : ∀ w ∈ wsX20, w ∈ lw_tbl := fun w h => wsL_law_in w (inlX2 w h)
theorem inlX3 : ∀ w ∈ wsX30, w ∈ wsL_law := fun _ h => List.mem_append_left _ (List.mem_append_left _ (List.mem_append_left _ (List.mem_append_left _ (List.mem_append_left _ (List.mem_append_left _ (List.mem_append_left _ (List.mem_append_left _ (List.mem_append_right _ h))))))))
theorem inX3 : ∀ w ∈ wsX30, w ∈ lw_tbl := fun w h => wsL_law_in w (inlX3 w h)
theorem inlX4 : ∀ w ∈ wsX40, w ∈ wsL_law := fun _ h => List.mem_append_left _ (List.mem_append_left _ (List.mem_append_left _ (List.mem_append_left _ (List.mem_append_left _ (List.mem_append_left _ (List.mem_append_left _ (List.mem_append_left _ (List.mem_append_left _ (List.mem_append_left _ (List.mem_append_right _ h))))))))))
theorem inX4 : ∀ w ∈ wsX40, w ∈ lw_tbl := fun w h => wsL_law_in w (inlX4 w h)
theorem inlX5 : ∀ w ∈ wsX50, w ∈ wsL_law := fun _ h => List.mem_append_left _ (List.mem_append_left _ (List.mem_append_left _ (List.mem_append_left _ (List.mem_append_left _ (List.mem_append_right _ h)))))
theorem inX5 : ∀ w ∈ wsX50, w ∈ lw_tbl := fun w h => wsL_law_in w (inlX5 w h)
theorem inlX6 : ∀ w ∈ wsX60, w ∈ wsL_law := fun _ h => List.mem_append_left _ (List.mem_append_left _ (List.mem_append_left _ (List.mem_append_left _ (List.mem_append_left _ (List.mem_append_left _ (List.mem_append_right _ h))))))
theorem inX6 : ∀ w ∈ wsX60, w ∈ lw_tbl := fun w h => wsL_law_in w (inlX6 w h)
theorem inlX7 : ∀ w ∈ wsX70, w ∈ wsL_law := fun _ h => List.mem_append_left _ (List.mem_append_left _ (List.mem_append_left _ (List.mem_append_left _ (List.mem_append_left _ (List.mem_append_left _ (List.mem_append_left _ (List.mem_append_left _ (List.mem_append_left _ (List.mem_append_left _ (List.mem_append_left _ (List.mem_append_right _ h)))))))))))
theorem inX7 : ∀ w ∈ wsX70, w ∈ lw_tbl := fun w h => wsL_law_in w (inlX7 w h)
theorem inlX8 : ∀ w ∈ wsX80, w ∈ wsL_law := fun _ h => List.mem_append_left _ (List.mem_append_left _ (List.mem_append_left _ (List.mem_append_left _ (List.mem_append_left _ (List.mem_append_left _ (List.mem_append_left _ (List.mem_append_left _ (List.mem_append_left _ (List.mem_append_left _ (List.mem_append_left _ (List.mem_append_left _ (List.mem_append_left _ (List.mem_append_right _ h)))))))))))))
theorem inX8 : ∀ w ∈ wsX80, w ∈ lw_tbl := fun w h => wsL_law_in w (inlX8 w h)
theorem inlX9 : ∀ w ∈ wsX90, w ∈ wsL_law := fun _ h => List.mem_append_left _ (List.mem_append_left _ (List.mem_append_left _ (List.mem_append_left _ (List.mem_append_left _ (List.mem_append_left _ (List.mem_append_left _ (List.mem_append_left _ (List.mem_append_left _ (List.mem_append_left _ (List.mem_append_left _ (List.mem_append_left _ (List.mem_append_right _ h))))))))))))
theorem inX9 : ∀ w ∈ wsX90, w ∈ lw_tbl := fun w h => wsL_law_in w (inlX9 w h)
theorem inJ9 : ∀ w ∈ wsJ90, w ∈ lw_tbl := by decide +kernel
theorem inJ0 : ∀ w ∈ wsJ00, w ∈ lw_tbl := by decide +kernel
theorem inJ1 : ∀ w ∈ wsJ10, w ∈ lw_tbl := by decide +kernel
theorem inJ2 : ∀ w ∈ wsJ20, w ∈ lw_tbl := by decide +kernel
theorem inJ10 : ∀ w ∈ wsJ100, w ∈ lw_tbl := by decide +kernel
theorem inJ3 : ∀ w ∈ wsJ30, w ∈ lw_tbl := by decide +kernel
abbrev vwCl : List vw_C := [(RX0, TX0, 8), (RX1, TX1, 15), (RX2, TX2, 8), (RX3, TX3, 3), (RX4, TX4, 2), (RX5, TX5, 2), (RX6, TX6, 11), (RX7, TX7, 13), (RX8, TX8, 6), (RX9, TX9, 23)]
