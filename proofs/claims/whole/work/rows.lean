section
-- ===== PART A: goes FIRST, ahead of the names: the tables' words, and 'selects' of the private methods out of them =====
/-- a private method of a class that the tables say can be made, by its rows of tables_1 -/
def lw_okq (q : MethodName × Nat) : Prop := (q.1.cls ≠ "java/lang/invoke/MethodHandle" ∧ q.1.cls ≠ "java/lang/invoke/VarHandle") ∧ Cond.instantiable q.1.cls q.2 ∈ tables_1 ∧ Cond.privateMethod q.1 ∈ tables_1 ∧ Cond.instanceMethod q.1 ∈ tables_1
theorem lw_p0 : lw_okq (⟨"PlateauBench$Nets", "joinAll", "(LPlateauBench$Grid;)V"⟩, 7) := ⟨⟨by decide +kernel, by decide +kernel⟩, List.mem_of_getElem? (i := 68) (by decide +kernel), List.mem_of_getElem? (i := 168) (by decide +kernel), List.mem_of_getElem? (i := 169) (by decide +kernel)⟩
theorem lw_p1 : lw_okq (⟨"PlateauBench$Grid", "lower", "([III)Z"⟩, 7) := ⟨⟨by decide +kernel, by decide +kernel⟩, List.mem_of_getElem? (i := 26) (by decide +kernel), List.mem_of_getElem? (i := 181) (by decide +kernel), List.mem_of_getElem? (i := 182) (by decide +kernel)⟩
theorem lw_p2 : lw_okq (⟨"PlateauBench$Nets", "allTowns", "()I"⟩, 7) := ⟨⟨by decide +kernel, by decide +kernel⟩, List.mem_of_getElem? (i := 68) (by decide +kernel), List.mem_of_getElem? (i := 185) (by decide +kernel), List.mem_of_getElem? (i := 186) (by decide +kernel)⟩
theorem lw_p3 : lw_okq (⟨"PlateauBench$Nets", "joinParts", "(I)V"⟩, 7) := ⟨⟨by decide +kernel, by decide +kernel⟩, List.mem_of_getElem? (i := 68) (by decide +kernel), List.mem_of_getElem? (i := 195) (by decide +kernel), List.mem_of_getElem? (i := 196) (by decide +kernel)⟩
theorem lw_p4 : lw_okq (⟨"PlateauBench$Nets", "measureTowns", "(LPlateauBench$Grid;)V"⟩, 7) := ⟨⟨by decide +kernel, by decide +kernel⟩, List.mem_of_getElem? (i := 68) (by decide +kernel), List.mem_of_getElem? (i := 212) (by decide +kernel), List.mem_of_getElem? (i := 213) (by decide +kernel)⟩
theorem lw_p5 : lw_okq (⟨"PlateauBench$Nets", "hungOn", "(II)I"⟩, 7) := ⟨⟨by decide +kernel, by decide +kernel⟩, List.mem_of_getElem? (i := 68) (by decide +kernel), List.mem_of_getElem? (i := 216) (by decide +kernel), List.mem_of_getElem? (i := 217) (by decide +kernel)⟩
theorem lw_p6 : lw_okq (⟨"PlateauBench$Nets", "cheapestPairs", "()I"⟩, 7) := ⟨⟨by decide +kernel, by decide +kernel⟩, List.mem_of_getElem? (i := 68) (by decide +kernel), List.mem_of_getElem? (i := 228) (by decide +kernel), List.mem_of_getElem? (i := 229) (by decide +kernel)⟩
theorem lw_p7 : lw_okq (⟨"PlateauBench$Nets", "between", "(II)I"⟩, 7) := ⟨⟨by decide +kernel, by decide +kernel⟩, List.mem_of_getElem? (i := 68) (by decide +kernel), List.mem_of_getElem? (i := 232) (by decide +kernel), List.mem_of_getElem? (i := 233) (by decide +kernel)⟩
theorem lw_p8 : lw_okq (⟨"PlateauBench$Nets", "nearestOutside", "()I"⟩, 7) := ⟨⟨by decide +kernel, by decide +kernel⟩, List.mem_of_getElem? (i := 68) (by decide +kernel), List.mem_of_getElem? (i := 236) (by decide +kernel), List.mem_of_getElem? (i := 237) (by decide +kernel)⟩
theorem lw_p9 : lw_okq (⟨"PlateauBench$Nets", "farthestPair", "()I"⟩, 7) := ⟨⟨by decide +kernel, by decide +kernel⟩, List.mem_of_getElem? (i := 68) (by decide +kernel), List.mem_of_getElem? (i := 243) (by decide +kernel), List.mem_of_getElem? (i := 244) (by decide +kernel)⟩
theorem lw_p10 : lw_okq (⟨"PlateauBench$Nets", "farthestThree", "()I"⟩, 7) := ⟨⟨by decide +kernel, by decide +kernel⟩, List.mem_of_getElem? (i := 68) (by decide +kernel), List.mem_of_getElem? (i := 250) (by decide +kernel), List.mem_of_getElem? (i := 251) (by decide +kernel)⟩
theorem lw_p11 : lw_okq (⟨"PlateauBench$Films", "fillField", "(LPlateauBench$Grid;)V"⟩, 4) := ⟨⟨by decide +kernel, by decide +kernel⟩, List.mem_of_getElem? (i := 96) (by decide +kernel), List.mem_of_getElem? (i := 266) (by decide +kernel), List.mem_of_getElem? (i := 267) (by decide +kernel)⟩
theorem lw_p12 : lw_okq (⟨"PlateauBench$Films", "search", "(LPlateauBench$Grid;I)I"⟩, 4) := ⟨⟨by decide +kernel, by decide +kernel⟩, List.mem_of_getElem? (i := 96) (by decide +kernel), List.mem_of_getElem? (i := 270) (by decide +kernel), List.mem_of_getElem? (i := 271) (by decide +kernel)⟩
theorem lw_p13 : lw_okq (⟨"PlateauBench$Films", "searchBeside", "(LPlateauBench$Grid;III)I"⟩, 4) := ⟨⟨by decide +kernel, by decide +kernel⟩, List.mem_of_getElem? (i := 96) (by decide +kernel), List.mem_of_getElem? (i := 274) (by decide +kernel), List.mem_of_getElem? (i := 275) (by decide +kernel)⟩
theorem lw_p14 : lw_okq (⟨"PlateauBench$Films", "leftFrom", "(LPlateauBench$Grid;II)I"⟩, 4) := ⟨⟨by decide +kernel, by decide +kernel⟩, List.mem_of_getElem? (i := 96) (by decide +kernel), List.mem_of_getElem? (i := 286) (by decide +kernel), List.mem_of_getElem? (i := 287) (by decide +kernel)⟩
theorem lw_p15 : lw_okq (⟨"PlateauBench$Films", "nearestOutside", "(I)I"⟩, 4) := ⟨⟨by decide +kernel, by decide +kernel⟩, List.mem_of_getElem? (i := 96) (by decide +kernel), List.mem_of_getElem? (i := 298) (by decide +kernel), List.mem_of_getElem? (i := 299) (by decide +kernel)⟩
def lw_privs_1 : List (MethodName × Nat) := [(⟨"PlateauBench$Nets", "joinAll", "(LPlateauBench$Grid;)V"⟩, 7), (⟨"PlateauBench$Grid", "lower", "([III)Z"⟩, 7), (⟨"PlateauBench$Nets", "allTowns", "()I"⟩, 7), (⟨"PlateauBench$Nets", "joinParts", "(I)V"⟩, 7), (⟨"PlateauBench$Nets", "measureTowns", "(LPlateauBench$Grid;)V"⟩, 7), (⟨"PlateauBench$Nets", "hungOn", "(II)I"⟩, 7), (⟨"PlateauBench$Nets", "cheapestPairs", "()I"⟩, 7), (⟨"PlateauBench$Nets", "between", "(II)I"⟩, 7), (⟨"PlateauBench$Nets", "nearestOutside", "()I"⟩, 7), (⟨"PlateauBench$Nets", "farthestPair", "()I"⟩, 7), (⟨"PlateauBench$Nets", "farthestThree", "()I"⟩, 7), (⟨"PlateauBench$Films", "fillField", "(LPlateauBench$Grid;)V"⟩, 4), (⟨"PlateauBench$Films", "search", "(LPlateauBench$Grid;I)I"⟩, 4), (⟨"PlateauBench$Films", "searchBeside", "(LPlateauBench$Grid;III)I"⟩, 4), (⟨"PlateauBench$Films", "leftFrom", "(LPlateauBench$Grid;II)I"⟩, 4), (⟨"PlateauBench$Films", "nearestOutside", "(I)I"⟩, 4)]
theorem lw_r1 : ∀ q ∈ lw_privs_1, lw_okq q := List.forall_mem_cons.mpr ⟨lw_p0, List.forall_mem_cons.mpr ⟨lw_p1, List.forall_mem_cons.mpr ⟨lw_p2, List.forall_mem_cons.mpr ⟨lw_p3, List.forall_mem_cons.mpr ⟨lw_p4, List.forall_mem_cons.mpr ⟨lw_p5, List.forall_mem_cons.mpr ⟨lw_p6, List.forall_mem_cons.mpr ⟨lw_p7, List.forall_mem_cons.mpr ⟨lw_p8, List.forall_mem_cons.mpr ⟨lw_p9, List.forall_mem_cons.mpr ⟨lw_p10, List.forall_mem_cons.mpr ⟨lw_p11, List.forall_mem_cons.mpr ⟨lw_p12, List.forall_mem_cons.mpr ⟨lw_p13, List.forall_mem_cons.mpr ⟨lw_p14, List.forall_mem_cons.mpr ⟨lw_p15, fun _ h => absurd h List.not_mem_nil⟩⟩⟩⟩⟩⟩⟩⟩⟩⟩⟩⟩⟩⟩⟩⟩
theorem lw_p16 : lw_okq (⟨"PlateauBench$Films", "mostAlong", "(LPlateauBench$Grid;I)I"⟩, 4) := ⟨⟨by decide +kernel, by decide +kernel⟩, List.mem_of_getElem? (i := 96) (by decide +kernel), List.mem_of_getElem? (i := 302) (by decide +kernel), List.mem_of_getElem? (i := 303) (by decide +kernel)⟩
theorem lw_p17 : lw_okq (⟨"PlateauBench$Films", "push", "(LPlateauBench$Grid;II)V"⟩, 4) := ⟨⟨by decide +kernel, by decide +kernel⟩, List.mem_of_getElem? (i := 96) (by decide +kernel), List.mem_of_getElem? (i := 308) (by decide +kernel), List.mem_of_getElem? (i := 309) (by decide +kernel)⟩
theorem lw_p18 : lw_okq (⟨"PlateauBench$Films", "reached", "()J"⟩, 4) := ⟨⟨by decide +kernel, by decide +kernel⟩, List.mem_of_getElem? (i := 96) (by decide +kernel), List.mem_of_getElem? (i := 312) (by decide +kernel), List.mem_of_getElem? (i := 313) (by decide +kernel)⟩
theorem lw_p19 : lw_okq (⟨"PlateauBench$Foam", "breath", "(LPlateauBench$Grid;[I)I"⟩, 7) := ⟨⟨by decide +kernel, by decide +kernel⟩, List.mem_of_getElem? (i := 115) (by decide +kernel), List.mem_of_getElem? (i := 356) (by decide +kernel), List.mem_of_getElem? (i := 357) (by decide +kernel)⟩
theorem lw_p20 : lw_okq (⟨"PlateauBench$Foam", "bestOwner", "(LPlateauBench$Grid;[II)I"⟩, 7) := ⟨⟨by decide +kernel, by decide +kernel⟩, List.mem_of_getElem? (i := 115) (by decide +kernel), List.mem_of_getElem? (i := 360) (by decide +kernel), List.mem_of_getElem? (i := 361) (by decide +kernel)⟩
theorem lw_p21 : lw_okq (⟨"java/lang/Throwable", "fillInStackTrace", "(I)Ljava/lang/Throwable;"⟩, 6) := ⟨⟨by decide +kernel, by decide +kernel⟩, List.mem_of_getElem? (i := 416) (by decide +kernel), List.mem_of_getElem? (i := 414) (by decide +kernel), List.mem_of_getElem? (i := 415) (by decide +kernel)⟩
theorem lw_p22 : lw_okq (⟨"PlateauBench", "takeInNewPrices", "(I)V"⟩, 5) := ⟨⟨by decide +kernel, by decide +kernel⟩, List.mem_of_getElem? (i := 18) (by decide +kernel), List.mem_of_getElem? (i := 460) (by decide +kernel), List.mem_of_getElem? (i := 461) (by decide +kernel)⟩
theorem lw_p23 : lw_okq (⟨"PlateauBench", "checkTown", "(I)V"⟩, 5) := ⟨⟨by decide +kernel, by decide +kernel⟩, List.mem_of_getElem? (i := 18) (by decide +kernel), List.mem_of_getElem? (i := 572) (by decide +kernel), List.mem_of_getElem? (i := 573) (by decide +kernel)⟩
theorem lw_p24 : lw_okq (⟨"PlateauBench$TwoWays", "takeWayBack", "(LPlateauBench$Grid;I)V"⟩, 2) := ⟨⟨by decide +kernel, by decide +kernel⟩, List.mem_of_getElem? (i := 55) (by decide +kernel), List.mem_of_getElem? (i := 623) (by decide +kernel), List.mem_of_getElem? (i := 624) (by decide +kernel)⟩
theorem lw_p25 : lw_okq (⟨"PlateauBench$TwoWays", "stepBack", "(LPlateauBench$Grid;I)I"⟩, 2) := ⟨⟨by decide +kernel, by decide +kernel⟩, List.mem_of_getElem? (i := 55) (by decide +kernel), List.mem_of_getElem? (i := 627) (by decide +kernel), List.mem_of_getElem? (i := 628) (by decide +kernel)⟩
theorem lw_p26 : lw_okq (⟨"PlateauBench$TwoWays", "measureBesideTaken", "(LPlateauBench$Grid;I)V"⟩, 2) := ⟨⟨by decide +kernel, by decide +kernel⟩, List.mem_of_getElem? (i := 55) (by decide +kernel), List.mem_of_getElem? (i := 634) (by decide +kernel), List.mem_of_getElem? (i := 635) (by decide +kernel)⟩
theorem lw_p27 : lw_okq (⟨"PlateauBench$TwoWays", "lower", "(LPlateauBench$Grid;III)Z"⟩, 2) := ⟨⟨by decide +kernel, by decide +kernel⟩, List.mem_of_getElem? (i := 55) (by decide +kernel), List.mem_of_getElem? (i := 641) (by decide +kernel), List.mem_of_getElem? (i := 642) (by decide +kernel)⟩
theorem lw_p28 : lw_okq (⟨"PlateauBench$Foam", "seePiece", "(LPlateauBench$Grid;I)V"⟩, 7) := ⟨⟨by decide +kernel, by decide +kernel⟩, List.mem_of_getElem? (i := 115) (by decide +kernel), List.mem_of_getElem? (i := 735) (by decide +kernel), List.mem_of_getElem? (i := 736) (by decide +kernel)⟩
theorem lw_p29 : lw_okq (⟨"PlateauBench$Foam", "isBetween", "(LPlateauBench$Grid;III)Z"⟩, 7) := ⟨⟨by decide +kernel, by decide +kernel⟩, List.mem_of_getElem? (i := 115) (by decide +kernel), List.mem_of_getElem? (i := 747) (by decide +kernel), List.mem_of_getElem? (i := 748) (by decide +kernel)⟩
theorem lw_p30 : lw_okq (⟨"PlateauBench$Foam", "kindsAt", "(I)I"⟩, 7) := ⟨⟨by decide +kernel, by decide +kernel⟩, List.mem_of_getElem? (i := 115) (by decide +kernel), List.mem_of_getElem? (i := 781) (by decide +kernel), List.mem_of_getElem? (i := 782) (by decide +kernel)⟩
theorem lw_p31 : lw_okq (⟨"PlateauBenchModel", "refused", "(I)Z"⟩, 19) := ⟨⟨by decide +kernel, by decide +kernel⟩, List.mem_of_getElem? (i := 806) (by decide +kernel), List.mem_of_getElem? (i := 881) (by decide +kernel), List.mem_of_getElem? (i := 882) (by decide +kernel)⟩
def lw_privs_2 : List (MethodName × Nat) := [(⟨"PlateauBench$Films", "mostAlong", "(LPlateauBench$Grid;I)I"⟩, 4), (⟨"PlateauBench$Films", "push", "(LPlateauBench$Grid;II)V"⟩, 4), (⟨"PlateauBench$Films", "reached", "()J"⟩, 4), (⟨"PlateauBench$Foam", "breath", "(LPlateauBench$Grid;[I)I"⟩, 7), (⟨"PlateauBench$Foam", "bestOwner", "(LPlateauBench$Grid;[II)I"⟩, 7), (⟨"java/lang/Throwable", "fillInStackTrace", "(I)Ljava/lang/Throwable;"⟩, 6), (⟨"PlateauBench", "takeInNewPrices", "(I)V"⟩, 5), (⟨"PlateauBench", "checkTown", "(I)V"⟩, 5), (⟨"PlateauBench$TwoWays", "takeWayBack", "(LPlateauBench$Grid;I)V"⟩, 2), (⟨"PlateauBench$TwoWays", "stepBack", "(LPlateauBench$Grid;I)I"⟩, 2), (⟨"PlateauBench$TwoWays", "measureBesideTaken", "(LPlateauBench$Grid;I)V"⟩, 2), (⟨"PlateauBench$TwoWays", "lower", "(LPlateauBench$Grid;III)Z"⟩, 2), (⟨"PlateauBench$Foam", "seePiece", "(LPlateauBench$Grid;I)V"⟩, 7), (⟨"PlateauBench$Foam", "isBetween", "(LPlateauBench$Grid;III)Z"⟩, 7), (⟨"PlateauBench$Foam", "kindsAt", "(I)I"⟩, 7), (⟨"PlateauBenchModel", "refused", "(I)Z"⟩, 19)]
theorem lw_r2 : ∀ q ∈ lw_privs_2, lw_okq q := List.forall_mem_cons.mpr ⟨lw_p16, List.forall_mem_cons.mpr ⟨lw_p17, List.forall_mem_cons.mpr ⟨lw_p18, List.forall_mem_cons.mpr ⟨lw_p19, List.forall_mem_cons.mpr ⟨lw_p20, List.forall_mem_cons.mpr ⟨lw_p21, List.forall_mem_cons.mpr ⟨lw_p22, List.forall_mem_cons.mpr ⟨lw_p23, List.forall_mem_cons.mpr ⟨lw_p24, List.forall_mem_cons.mpr ⟨lw_p25, List.forall_mem_cons.mpr ⟨lw_p26, List.forall_mem_cons.mpr ⟨lw_p27, List.forall_mem_cons.mpr ⟨lw_p28, List.forall_mem_cons.mpr ⟨lw_p29, List.forall_mem_cons.mpr ⟨lw_p30, List.forall_mem_cons.mpr ⟨lw_p31, fun _ h => absurd h List.not_mem_nil⟩⟩⟩⟩⟩⟩⟩⟩⟩⟩⟩⟩⟩⟩⟩⟩
theorem lw_p32 : lw_okq (⟨"PlateauBenchModel", "energyNow", "()I"⟩, 19) := ⟨⟨by decide +kernel, by decide +kernel⟩, List.mem_of_getElem? (i := 806) (by decide +kernel), List.mem_of_getElem? (i := 885) (by decide +kernel), List.mem_of_getElem? (i := 886) (by decide +kernel)⟩
theorem lw_p33 : lw_okq (⟨"PlateauBenchModel", "costOfEdge", "(I)I"⟩, 19) := ⟨⟨by decide +kernel, by decide +kernel⟩, List.mem_of_getElem? (i := 806) (by decide +kernel), List.mem_of_getElem? (i := 895) (by decide +kernel), List.mem_of_getElem? (i := 896) (by decide +kernel)⟩
theorem lw_p34 : lw_okq (⟨"PlateauBenchModel", "apartFrom", "(II)I"⟩, 19) := ⟨⟨by decide +kernel, by decide +kernel⟩, List.mem_of_getElem? (i := 806) (by decide +kernel), List.mem_of_getElem? (i := 917) (by decide +kernel), List.mem_of_getElem? (i := 918) (by decide +kernel)⟩
theorem lw_p35 : lw_okq (⟨"PlateauBenchModel", "findFar", "(I)V"⟩, 19) := ⟨⟨by decide +kernel, by decide +kernel⟩, List.mem_of_getElem? (i := 806) (by decide +kernel), List.mem_of_getElem? (i := 921) (by decide +kernel), List.mem_of_getElem? (i := 922) (by decide +kernel)⟩
theorem lw_p36 : lw_okq (⟨"PlateauBenchModel", "isTown", "(I)Z"⟩, 19) := ⟨⟨by decide +kernel, by decide +kernel⟩, List.mem_of_getElem? (i := 806) (by decide +kernel), List.mem_of_getElem? (i := 930) (by decide +kernel), List.mem_of_getElem? (i := 931) (by decide +kernel)⟩
theorem lw_p37 : lw_okq (⟨"PlateauBenchModel", "leastNow", "()I"⟩, 19) := ⟨⟨by decide +kernel, by decide +kernel⟩, List.mem_of_getElem? (i := 806) (by decide +kernel), List.mem_of_getElem? (i := 946) (by decide +kernel), List.mem_of_getElem? (i := 947) (by decide +kernel)⟩
theorem lw_p38 : lw_okq (⟨"PlateauBenchModel", "leastOf", "(I)I"⟩, 19) := ⟨⟨by decide +kernel, by decide +kernel⟩, List.mem_of_getElem? (i := 806) (by decide +kernel), List.mem_of_getElem? (i := 950) (by decide +kernel), List.mem_of_getElem? (i := 951) (by decide +kernel)⟩
theorem lw_p39 : lw_okq (⟨"PlateauBenchModel", "spread", "(I)V"⟩, 19) := ⟨⟨by decide +kernel, by decide +kernel⟩, List.mem_of_getElem? (i := 806) (by decide +kernel), List.mem_of_getElem? (i := 954) (by decide +kernel), List.mem_of_getElem? (i := 955) (by decide +kernel)⟩
theorem lw_p40 : lw_okq (⟨"PlateauBenchModel", "boundNow", "()I"⟩, 19) := ⟨⟨by decide +kernel, by decide +kernel⟩, List.mem_of_getElem? (i := 806) (by decide +kernel), List.mem_of_getElem? (i := 966) (by decide +kernel), List.mem_of_getElem? (i := 967) (by decide +kernel)⟩
theorem lw_p41 : lw_okq (⟨"PlateauBenchModel", "treeOfPairs", "()I"⟩, 19) := ⟨⟨by decide +kernel, by decide +kernel⟩, List.mem_of_getElem? (i := 806) (by decide +kernel), List.mem_of_getElem? (i := 970) (by decide +kernel), List.mem_of_getElem? (i := 971) (by decide +kernel)⟩
theorem lw_p42 : lw_okq (⟨"PlateauBenchModel", "oneWay", "(II)I"⟩, 19) := ⟨⟨by decide +kernel, by decide +kernel⟩, List.mem_of_getElem? (i := 806) (by decide +kernel), List.mem_of_getElem? (i := 986) (by decide +kernel), List.mem_of_getElem? (i := 987) (by decide +kernel)⟩
theorem lw_p43 : lw_okq (⟨"PlateauBenchModel", "stepCost", "(IZ)I"⟩, 19) := ⟨⟨by decide +kernel, by decide +kernel⟩, List.mem_of_getElem? (i := 806) (by decide +kernel), List.mem_of_getElem? (i := 990) (by decide +kernel), List.mem_of_getElem? (i := 991) (by decide +kernel)⟩
theorem lw_p44 : lw_okq (⟨"PlateauBenchModel", "greatestFlow", "()I"⟩, 19) := ⟨⟨by decide +kernel, by decide +kernel⟩, List.mem_of_getElem? (i := 806) (by decide +kernel), List.mem_of_getElem? (i := 1002) (by decide +kernel), List.mem_of_getElem? (i := 1003) (by decide +kernel)⟩
theorem lw_p45 : lw_okq (⟨"PlateauBenchModel", "reach", "(IZ)V"⟩, 19) := ⟨⟨by decide +kernel, by decide +kernel⟩, List.mem_of_getElem? (i := 806) (by decide +kernel), List.mem_of_getElem? (i := 1006) (by decide +kernel), List.mem_of_getElem? (i := 1007) (by decide +kernel)⟩
theorem lw_p46 : lw_okq (⟨"PlateauBenchModel", "rest", "(IZ)I"⟩, 19) := ⟨⟨by decide +kernel, by decide +kernel⟩, List.mem_of_getElem? (i := 806) (by decide +kernel), List.mem_of_getElem? (i := 1010) (by decide +kernel), List.mem_of_getElem? (i := 1011) (by decide +kernel)⟩
theorem lw_p47 : lw_okq (⟨"PlateauBenchModel", "reachedOutside", "()I"⟩, 19) := ⟨⟨by decide +kernel, by decide +kernel⟩, List.mem_of_getElem? (i := 806) (by decide +kernel), List.mem_of_getElem? (i := 1014) (by decide +kernel), List.mem_of_getElem? (i := 1015) (by decide +kernel)⟩
def lw_privs_3 : List (MethodName × Nat) := [(⟨"PlateauBenchModel", "energyNow", "()I"⟩, 19), (⟨"PlateauBenchModel", "costOfEdge", "(I)I"⟩, 19), (⟨"PlateauBenchModel", "apartFrom", "(II)I"⟩, 19), (⟨"PlateauBenchModel", "findFar", "(I)V"⟩, 19), (⟨"PlateauBenchModel", "isTown", "(I)Z"⟩, 19), (⟨"PlateauBenchModel", "leastNow", "()I"⟩, 19), (⟨"PlateauBenchModel", "leastOf", "(I)I"⟩, 19), (⟨"PlateauBenchModel", "spread", "(I)V"⟩, 19), (⟨"PlateauBenchModel", "boundNow", "()I"⟩, 19), (⟨"PlateauBenchModel", "treeOfPairs", "()I"⟩, 19), (⟨"PlateauBenchModel", "oneWay", "(II)I"⟩, 19), (⟨"PlateauBenchModel", "stepCost", "(IZ)I"⟩, 19), (⟨"PlateauBenchModel", "greatestFlow", "()I"⟩, 19), (⟨"PlateauBenchModel", "reach", "(IZ)V"⟩, 19), (⟨"PlateauBenchModel", "rest", "(IZ)I"⟩, 19), (⟨"PlateauBenchModel", "reachedOutside", "()I"⟩, 19)]
theorem lw_r3 : ∀ q ∈ lw_privs_3, lw_okq q := List.forall_mem_cons.mpr ⟨lw_p32, List.forall_mem_cons.mpr ⟨lw_p33, List.forall_mem_cons.mpr ⟨lw_p34, List.forall_mem_cons.mpr ⟨lw_p35, List.forall_mem_cons.mpr ⟨lw_p36, List.forall_mem_cons.mpr ⟨lw_p37, List.forall_mem_cons.mpr ⟨lw_p38, List.forall_mem_cons.mpr ⟨lw_p39, List.forall_mem_cons.mpr ⟨lw_p40, List.forall_mem_cons.mpr ⟨lw_p41, List.forall_mem_cons.mpr ⟨lw_p42, List.forall_mem_cons.mpr ⟨lw_p43, List.forall_mem_cons.mpr ⟨lw_p44, List.forall_mem_cons.mpr ⟨lw_p45, List.forall_mem_cons.mpr ⟨lw_p46, List.forall_mem_cons.mpr ⟨lw_p47, fun _ h => absurd h List.not_mem_nil⟩⟩⟩⟩⟩⟩⟩⟩⟩⟩⟩⟩⟩⟩⟩⟩
theorem lw_p48 : lw_okq (⟨"PlateauBenchModel", "push", "(I)V"⟩, 19) := ⟨⟨by decide +kernel, by decide +kernel⟩, List.mem_of_getElem? (i := 806) (by decide +kernel), List.mem_of_getElem? (i := 1018) (by decide +kernel), List.mem_of_getElem? (i := 1019) (by decide +kernel)⟩
theorem lw_p49 : lw_okq (⟨"PlateauBenchModel", "breath", "()I"⟩, 19) := ⟨⟨by decide +kernel, by decide +kernel⟩, List.mem_of_getElem? (i := 806) (by decide +kernel), List.mem_of_getElem? (i := 1050) (by decide +kernel), List.mem_of_getElem? (i := 1051) (by decide +kernel)⟩
theorem lw_p50 : lw_okq (⟨"PlateauBenchModel", "bestFor", "(I)I"⟩, 19) := ⟨⟨by decide +kernel, by decide +kernel⟩, List.mem_of_getElem? (i := 806) (by decide +kernel), List.mem_of_getElem? (i := 1054) (by decide +kernel), List.mem_of_getElem? (i := 1055) (by decide +kernel)⟩
theorem lw_p51 : lw_okq (⟨"PlateauBenchModel", "wallsOf", "(II)I"⟩, 19) := ⟨⟨by decide +kernel, by decide +kernel⟩, List.mem_of_getElem? (i := 806) (by decide +kernel), List.mem_of_getElem? (i := 1058) (by decide +kernel), List.mem_of_getElem? (i := 1059) (by decide +kernel)⟩
theorem lw_p52 : lw_okq (⟨"PlateauBenchModel", "isBeside", "(II)Z"⟩, 19) := ⟨⟨by decide +kernel, by decide +kernel⟩, List.mem_of_getElem? (i := 806) (by decide +kernel), List.mem_of_getElem? (i := 1062) (by decide +kernel), List.mem_of_getElem? (i := 1063) (by decide +kernel)⟩
theorem lw_p53 : lw_okq (⟨"PlateauBenchModel", "nodesOf", "(I)I"⟩, 19) := ⟨⟨by decide +kernel, by decide +kernel⟩, List.mem_of_getElem? (i := 806) (by decide +kernel), List.mem_of_getElem? (i := 1074) (by decide +kernel), List.mem_of_getElem? (i := 1075) (by decide +kernel)⟩
theorem lw_p54 : lw_okq (⟨"PlateauBenchModel", "piecesOf", "(I)I"⟩, 19) := ⟨⟨by decide +kernel, by decide +kernel⟩, List.mem_of_getElem? (i := 806) (by decide +kernel), List.mem_of_getElem? (i := 1078) (by decide +kernel), List.mem_of_getElem? (i := 1079) (by decide +kernel)⟩
theorem lw_p55 : lw_okq (⟨"PlateauBenchModel", "wallsOfBubble", "(IZ)I"⟩, 19) := ⟨⟨by decide +kernel, by decide +kernel⟩, List.mem_of_getElem? (i := 806) (by decide +kernel), List.mem_of_getElem? (i := 1082) (by decide +kernel), List.mem_of_getElem? (i := 1083) (by decide +kernel)⟩
theorem lw_p56 : lw_okq (⟨"PlateauBenchModel", "wallBetween", "(II)I"⟩, 19) := ⟨⟨by decide +kernel, by decide +kernel⟩, List.mem_of_getElem? (i := 806) (by decide +kernel), List.mem_of_getElem? (i := 1086) (by decide +kernel), List.mem_of_getElem? (i := 1087) (by decide +kernel)⟩
theorem lw_p57 : lw_okq (⟨"PlateauBenchModel", "kindsAt", "(I)I"⟩, 19) := ⟨⟨by decide +kernel, by decide +kernel⟩, List.mem_of_getElem? (i := 806) (by decide +kernel), List.mem_of_getElem? (i := 1098) (by decide +kernel), List.mem_of_getElem? (i := 1099) (by decide +kernel)⟩
theorem lw_p58 : lw_okq (⟨"PlateauBenchModel", "resting", "(Z)I"⟩, 19) := ⟨⟨by decide +kernel, by decide +kernel⟩, List.mem_of_getElem? (i := 806) (by decide +kernel), List.mem_of_getElem? (i := 1106) (by decide +kernel), List.mem_of_getElem? (i := 1107) (by decide +kernel)⟩
def lw_privs_4 : List (MethodName × Nat) := [(⟨"PlateauBenchModel", "push", "(I)V"⟩, 19), (⟨"PlateauBenchModel", "breath", "()I"⟩, 19), (⟨"PlateauBenchModel", "bestFor", "(I)I"⟩, 19), (⟨"PlateauBenchModel", "wallsOf", "(II)I"⟩, 19), (⟨"PlateauBenchModel", "isBeside", "(II)Z"⟩, 19), (⟨"PlateauBenchModel", "nodesOf", "(I)I"⟩, 19), (⟨"PlateauBenchModel", "piecesOf", "(I)I"⟩, 19), (⟨"PlateauBenchModel", "wallsOfBubble", "(IZ)I"⟩, 19), (⟨"PlateauBenchModel", "wallBetween", "(II)I"⟩, 19), (⟨"PlateauBenchModel", "kindsAt", "(I)I"⟩, 19), (⟨"PlateauBenchModel", "resting", "(Z)I"⟩, 19)]
theorem lw_r4 : ∀ q ∈ lw_privs_4, lw_okq q := List.forall_mem_cons.mpr ⟨lw_p48, List.forall_mem_cons.mpr ⟨lw_p49, List.forall_mem_cons.mpr ⟨lw_p50, List.forall_mem_cons.mpr ⟨lw_p51, List.forall_mem_cons.mpr ⟨lw_p52, List.forall_mem_cons.mpr ⟨lw_p53, List.forall_mem_cons.mpr ⟨lw_p54, List.forall_mem_cons.mpr ⟨lw_p55, List.forall_mem_cons.mpr ⟨lw_p56, List.forall_mem_cons.mpr ⟨lw_p57, List.forall_mem_cons.mpr ⟨lw_p58, fun _ h => absurd h List.not_mem_nil⟩⟩⟩⟩⟩⟩⟩⟩⟩⟩⟩
def lw_privs : List (MethodName × Nat) := lw_privs_1 ++ (lw_privs_2 ++ (lw_privs_3 ++ (lw_privs_4)))
def lw_tbl : List Cond := k2_sels lw_privs ++ tables_1
theorem lw_privs_ok : ∀ q ∈ lw_privs, lw_okq q := by
  show ∀ q ∈ lw_privs_1 ++ (lw_privs_2 ++ (lw_privs_3 ++ (lw_privs_4))), lw_okq q
  exact List.forall_mem_append.mpr ⟨lw_r1, List.forall_mem_append.mpr ⟨lw_r2, List.forall_mem_append.mpr ⟨lw_r3, lw_r4⟩⟩⟩
-- ===== end of PART A; then your names; then what follows =====
end
section
/-! ===== BEGIN words of one list among another's, by their places ===== -/
theorem goodIn_r {big : List Cond} (ws : List Cond) (ps : List Nat) (hp : ws = ps.filterMap (fun i => big[i]?)) (h : ws.all goodWord = true) : GoodIn big ws := by
  intro w hw
  have h1 := List.all_eq_true.mp h w hw
  rw [hp] at hw
  obtain ⟨i, -, hi⟩ := List.mem_filterMap.mp hw
  have hm : w ∈ big := by first | exact List.mem_of_getElem? hi | exact List.getElem?_mem hi
  exact ⟨hm, good_of_word h1⟩
theorem goodIn_app {big a b : List Cond} (ha : GoodIn big a) (hb : GoodIn big b) : GoodIn big (a ++ b) := fun w h => (List.mem_append.mp h).elim (ha w) (hb w)
theorem goodIn_ca {big a b : List Cond} {c : Cond} (ha : GoodIn big (c :: a)) (hb : GoodIn big b) : GoodIn big (c :: (a ++ b)) := fun w h => (List.mem_cons.mp h).elim (fun e => ha w (List.mem_cons.mpr (Or.inl e))) (fun h => (List.mem_append.mp h).elim (fun h => ha w (List.mem_cons.mpr (Or.inr h))) (hb w))
theorem goodIn_sub {big ws : List Cond} (hm : ∀ w ∈ ws, w ∈ big) (h : ws.all goodWord = true) : GoodIn big ws := fun w hw => ⟨hm w hw, good_of_word (List.all_eq_true.mp h w hw)⟩
/-! ===== END ===== -/

/-! ===== BEGIN exceptions that leave a method, and their catching by the caller (launches without stack traces) ===== -/
section VXA
/-! The laws vx_back, vx_callV, vx_callS, vx_callSW, vx_throw0, vx_throwS follow proofs of the library, with one case more: JvmDerived/Free/Laws.lean (Back.of_free), Shelf42/LK1.lean (callV, callS), Shelf/KitTraced.lean (throwNew0V, throwNewS). -/
/-- where a method has thrown q: the class by its name, the cell, what was written, the world -/
def vx_T (XC : String → State → State → Prop) (st : State) (q : Addr) (t : State) (mc ms : Nat) (free : Addr → Prop) : Prop :=
  ∃ (E : String) (ce : Cell) (L : List Loc), XC E st t ∧ t.heap[q]? = some ce ∧ ce.vm = .none ∧ st.vm.findClass E = some ce.cls ∧ st.WarmedH t.vm ∧ st.sameButNew ({ t with vm := st.vm } : State) L mc ms ∧ ∀ z ∈ L, free z.base
def vx_Q (Qc : Array Value → State → Outcome → State → Prop) (XC : String → State → State → Prop) (mc ms : Nat) (free : Addr → Prop) : Array Value → State → Outcome → State → Prop := fun a st o t =>
  (Qc a st o t ∧ ∃ L, FrameEnd st o t L mc ms ∧ ∀ q ∈ L, free q.base) ∨ ∃ q, o = .threw q ∧ vx_T XC st q t mc ms free
/-- a callee that returns or throws -/
def vx_Met (l : Launch) (y : MethodName) (ws : List Cond) (rm : Room) (Pc : Array Value → State → Prop) (Qc : Array Value → State → Outcome → State → Prop) (XC : String → State → State → Prop) (mc ms : Nat) (free : Addr → Prop) : Prop :=
  MetFree l y (headSpec ws rm) Pc (fun _ _ _ _ _ => True) (vx_Q Qc XC mc ms free)
def vx_Post (XC : String → State → State → Prop) (mc ms : Nat) (free : Addr → Prop) : Pt → Array Value → Addr → Pt → Prop := fun A a q B =>
  ∃ (g : JFrame) (mk : MethodId) (t : State) (L : List Loc) (E : String) (ce : Cell), B.U.heap = t.heap ∧ B.U.vm = t.vm ∧ XC E (A.U.calling g mk a) t ∧ t.heap[q]? = some ce ∧ ce.vm = .none ∧ A.U.vm.findClass E = some ce.cls ∧ B.locs = A.locs ++ L ∧ (∀ z ∈ L, free z.base) ∧ B.cells = A.cells + mc ∧ B.slots = A.slots + ms
def vx_Back (l : Launch) (R : Room) (p : Program) (e : Env) (below : List Frame) (s : State) (sargs : Array Value) (y : MethodName) (len W9 : Nat)
    (Pre : Pt → Array Value → Prop) (Post : Pt → Array Value → Option Value → Pt → Prop) (PostX : Pt → Array Value → Addr → Pt → Prop) : Prop :=
  ∀ (m : MethodId) (meth : Method) (c : Code) (A : Pt) (g : JFrame) (ig : Instr) (mk : MethodId) (a : Array Value),
    Stand p l e R s m sargs below meth c A.U A.locs A.cells A.slots → g.method = m → g.locals.size = c.maxLocals → decode c.code g.pc = .ok (ig, len) →
    2 * g.monitorRoom + (g.stack.map fun v => v.category).sum ≤ W9 → A.U.methodNamed? y = some mk → Pre A a →
    (∃ (v : Option Value) (B : Pt), Stand p l e R s m sargs below meth c B.U B.locs B.cells B.slots ∧ Post A a v B ∧
      Steps p.tables e below (doInvoke e (A.U.setTop g) [] mk a).1 (B.U.setTop { g with pc := g.pc + len, stack := v.toList ++ g.stack })) ∨
    (∃ (q : Addr) (B : Pt), Stand p l e R s m sargs below meth c B.U B.locs B.cells B.slots ∧ PostX A a q B ∧
      Steps p.tables e below (doInvoke e (A.U.setTop g) [] mk a).1 ((B.U.setTop g).pushFrame (.throwing q)))
section Payer
variable {l : Launch} {R : Room} {p : Program} {e : Env} {below : List Frame} {s : State} {sargs : Array Value} {y : MethodName} {len W9 : Nat}
theorem vx_back {ws : List Cond} {rm : Room} {Pc : Array Value → State → Prop} {Qc : Array Value → State → Outcome → State → Prop} {XC : String → State → State → Prop} {mc ms : Nat} {free : Addr → Prop} {bytes : ByteArray} {maxL : Nat} {ret : Option FieldType}
    (hM : vx_Met l y ws rm Pc Qc XC mc ms free) (hblind : FrameBlind Pc) (hrc : rm.cells = mc) (hrs : rm.slots = ms)
    (hframes : rm.frames + 1 ≤ R.frames) (hlocals : W9 + (maxL + 11) + rm.locals ≤ R.locals)
    (hws : ∀ w ∈ ws, ∀ a' U, s.WarmedH U.vm → w.before a' U = true) (hcode : Cond.code y bytes maxL ret ∈ ws) (hinit : ∀ a' U, s.WarmedH U.vm → (Cond.initialized y.cls).before a' U = true) :
    vx_Back l R p e below s sargs y len W9 (PreOf R mc ms Pc) (PostOf Qc mc ms free) (vx_Post XC mc ms free) := by
  intro m meth c A g ig mk a X hg hsize hdg hW hn hp
  have h1 : (headSpec ws rm).pre.before a A.U = true := atoms_intro fun w hw => hws w hw _ _ X.warmed
  have h2 : (Cond.code y bytes maxL ret).before a A.U = true := hws _ hcode _ _ X.warmed
  have h3 : (Cond.initialized y.cls).before a A.U = true := hinit _ _ X.warmed
  have h4 : A.cells + (headSpec ws rm).room.cells ≤ R.cells := by rw [show (headSpec ws rm).room.cells = mc from hrc]; exact hp.1
  have h5 : A.slots + (headSpec ws rm).room.slots ≤ R.slots := by rw [show (headSpec ws rm).room.slots = ms from hrs]; exact hp.2.1
  have hPc : Pc a (A.U.calling g mk a) := hblind _ _ _ _ hp.2.2
  obtain ⟨U, Ls, c0, s0⟩ := A
  dsimp only [Pt.U, Pt.locs, Pt.cells, Pt.slots] at h1 h2 h3 h4 h5 X hn hPc ⊢
  obtain ⟨methY, cY, hmY, hcY, -, hlY, -, -, -, -⟩ := Cond.code_spec hn h2
  obtain ⟨kY, hkY, -⟩ := className_of_methodNamed hn
  have hinitY : kY.init = .initialized := Cond.initialized_spec (findClass_of_methodNamed hn) hkY h3
  have h : At U g.method c below := by rw [hg]; exact X.here
  have hlocals9 : W9 + (maxL + 11) + (headSpec ws rm).room.locals ≤ R.locals := hlocals
  have happ : (headSpec ws rm).appliesLoose y e.platform (U.calling g mk a) = true :=
    Spec.appliesLoose_calling (g := g) h hdg hn hkY hinitY
      (X.room_calling (g := g) (R' := (headSpec ws rm).room) hsize hmY hcY hframes (by rw [hlY]; omega) h4 h5) h1
  obtain ⟨mid, hmid⟩ := h.above
  have hfr : (U.setTop g).frames = (.java g :: mid) ++ below := by rw [State.frames_setTop' g h.top, hmid]; rfl
  obtain ⟨o, s₂, hsteps, -, hend, hq⟩ := Steps.callFree hM p X.admits X.cas X.clock (acts := []) hfr happ hPc trivial
  have hq' : vx_Q Qc XC mc ms free a (U.calling g mk a) o s₂ := hq
  rw [State.frames_setTop' g h.top] at hend
  obtain ⟨g₀, hg0⟩ := Option.isSome_iff_exists.mp h.top
  obtain ⟨r, hr⟩ := State.topJava?_eq_some.mp hg0
  have hr' : (({ U with heap := s₂.heap, slotsUsed := s₂.slotsUsed } : State).setVm s₂.vm).frames = .java g₀ :: r := hr
  rcases hq' with ⟨hqc, L, hfe, hL⟩ | ⟨q, rfl, E, ce, L, hx, hce, hcv, hcl, hW₂, hsm, hL⟩
  · obtain ⟨⟨v, rfl⟩, hW₂, e2, q2, q3, q4, q5, q6⟩ := id hfe
    have e3 : s₂ = ({ (U.calling g mk a).setFrames s₂.frames with heap := s₂.heap, slotsUsed := s₂.slotsUsed } : State).setVm s₂.vm := by
      have : s₂ = ({ s₂ with vm := (U.calling g mk a).vm } : State).setVm s₂.vm := rfl
      rw [e2] at this
      exact this
    obtain ⟨c₂, i₂, len₂, hc₂, hd₂, hf₂⟩ := hend
    have hW' : U.WarmedH s₂.vm := hW₂
    have hcc : c₂ = c := by
      have h1 : s₂.code? g.method = U.code? g.method := by
        rw [State.code?_eq, State.code?_eq, hW'.alike.method?]
      exact Option.some.inj (hc₂.symm.trans (h1.trans h.code))
    subst hcc
    have hlen : len₂ = len := by rw [hdg] at hd₂; cases hd₂; rfl
    subst hlen
    have hs₂ : s₂ = (({ U with heap := s₂.heap, slotsUsed := s₂.slotsUsed } : State).setVm s₂.vm).setTop { g with pc := g.pc + len₂, stack := v.toList ++ g.stack } := by
      refine e3.trans ?_
      rw [hf₂, State.calling_eq h.top, State.setFrames_setFrames, State.setTop_of_frames _ hr', hr]
      rfl
    have hsame : U.sameButNew ({ U with heap := s₂.heap, slotsUsed := s₂.slotsUsed } : State) L mc ms := by
      refine ⟨?_, q2, q3, q4, q5, q6⟩
      obtain ⟨t, ht, -⟩ := State.frames_cons hr
      show ({ U with heap := s₂.heap, slotsUsed := s₂.slotsUsed } : State) = { U.setFrames U.frames with heap := s₂.heap, slotsUsed := s₂.slotsUsed }
      rw [State.setFrames_self ht]
    subst hg
    refine Or.inl ⟨v, ⟨(({ U with heap := s₂.heap, slotsUsed := s₂.slotsUsed } : State).setVm s₂.vm), Ls ++ L, c0 + mc, s0 + ms⟩,
      ⟨X.admits, X.cas, X.clock, X.frames, X.room, X.hears, X.method, X.code, (X.here.setHeapUsed s₂.heap s₂.slotsUsed).setVm hW'.alike, X.tail, State.WarmedH.trans X.warmed hW', X.limits, X.bytes, X.same.trans (hsame.setVm s.vm)⟩,
      ⟨g, mk, s₂, L, rfl, rfl, hqc, rfl, hL, rfl, rfl⟩, ?_⟩
    show Steps p.tables e below _ ((({ U with heap := s₂.heap, slotsUsed := s₂.slotsUsed } : State).setVm s₂.vm).setTop { g with pc := g.pc + len₂, stack := v.toList ++ g.stack })
    rw [← hs₂]
    exact hsteps
  · obtain ⟨e2, q2, q3, q4, q5, q6⟩ := id hsm
    have e3 : s₂ = ({ (U.calling g mk a).setFrames s₂.frames with heap := s₂.heap, slotsUsed := s₂.slotsUsed } : State).setVm s₂.vm := by
      have : s₂ = ({ s₂ with vm := (U.calling g mk a).vm } : State).setVm s₂.vm := rfl
      rw [e2] at this
      exact this
    have hf₂ : s₂.frames = .throwing q :: .java g :: U.frames.tail := hend
    have hW' : U.WarmedH s₂.vm := hW₂
    have hs₂ : s₂ = ((({ U with heap := s₂.heap, slotsUsed := s₂.slotsUsed } : State).setVm s₂.vm).setTop g).pushFrame (.throwing q) := by
      refine e3.trans ?_
      rw [hf₂, State.calling_eq h.top, State.setFrames_setFrames, State.pushFrame, State.frames_setTop _ hr', State.setTop_of_frames _ hr', State.setFrames_setFrames, hr]
      rfl
    have hsame : U.sameButNew ({ U with heap := s₂.heap, slotsUsed := s₂.slotsUsed } : State) L mc ms := by
      refine ⟨?_, q2, q3, q4, q5, q6⟩
      obtain ⟨t, ht, -⟩ := State.frames_cons hr
      show ({ U with heap := s₂.heap, slotsUsed := s₂.slotsUsed } : State) = { U.setFrames U.frames with heap := s₂.heap, slotsUsed := s₂.slotsUsed }
      rw [State.setFrames_self ht]
    subst hg
    refine Or.inr ⟨q, ⟨(({ U with heap := s₂.heap, slotsUsed := s₂.slotsUsed } : State).setVm s₂.vm), Ls ++ L, c0 + mc, s0 + ms⟩,
      ⟨X.admits, X.cas, X.clock, X.frames, X.room, X.hears, X.method, X.code, (X.here.setHeapUsed s₂.heap s₂.slotsUsed).setVm hW'.alike, X.tail, State.WarmedH.trans X.warmed hW', X.limits, X.bytes, X.same.trans (hsame.setVm s.vm)⟩,
      ⟨g, mk, s₂, L, E, ce, rfl, rfl, hx, hce, hcv, hcl, rfl, hL, rfl, rfl⟩, ?_⟩
    show Steps p.tables e below _ (((({ U with heap := s₂.heap, slotsUsed := s₂.slotsUsed } : State).setVm s₂.vm).setTop g).pushFrame (.throwing q))
    rw [← hs₂]
    exact hsteps
end Payer
section Calls
variable {p : Program} {l : Launch} {e : Env} {R : Room} {s : State} {m : MethodId} {args : Array Value} {below : List Frame} {meth : Method} {c : Code} {T : State} {locs : List Loc} {cells slots : Nat}
theorem vx_callV (X : Stand p l e R s m args below meth c T locs cells slots) (hexec : p.tables.exec = Jvm.exec) {own C : String} {index : Nat} {y : MethodName} {bytes : ByteArray} {maxL : Nat} {ret : Option FieldType}
    (hown : s.vm.findClass own = some m.cls) (hlink : (Cond.methodLink own index y).before args s = true) (hinst : (Cond.instanceMethod y).before args s = true) (hsel : (Cond.selects C y y).before args s = true)
    (hcode : (Cond.code y bytes maxL ret).before args s = true) (hy : y.cls ≠ "java/lang/invoke/MethodHandle" ∧ y.cls ≠ "java/lang/invoke/VarHandle")
    {W9 : Nat} {Pre : Pt → Array Value → Prop} {Post : Pt → Array Value → Option Value → Pt → Prop} {PostX : Pt → Array Value → Addr → Pt → Prop} (hK : vx_Back l R p e below s args y 3 W9 Pre Post PostX)
    {b : Addr} {cellB : Cell} (hcell : T.heap[b]? = some cellB) (hobj : cellB.vm.isStatics = false) (hcls : s.vm.findClass C = some cellB.cls)
    {g : JFrame} (hg : g.method = m) (hsize : g.locals.size = c.maxLocals) {argsL rest : List Value} (hlen : ∀ sig, parseMethodDescriptor y.desc = some sig → argsL.length = sig.parameters.length)
    (hstack : g.stack = argsL.reverse ++ .ref b :: rest) (hW : 2 * g.monitorRoom + (rest.map fun v => v.category).sum ≤ W9) (hdg : decode c.code g.pc = .ok (.invokevirtual index, 3))
    (hpre : ∀ vm₁, s.WarmedH vm₁ → Pre ⟨T.setVm vm₁, locs, cells, slots⟩ (Value.ref b :: argsL).toArray) :
    (∃ (v : Option Value) (vm₁ : Vm) (B : Pt), s.WarmedH vm₁ ∧ Stand p l e R s m args below meth c B.U B.locs B.cells B.slots ∧ Post ⟨T.setVm vm₁, locs, cells, slots⟩ (Value.ref b :: argsL).toArray v B ∧
      ∀ target, Steps p.tables e below (B.U.setTop { g with pc := g.pc + 3, stack := v.toList ++ rest }) target → Steps p.tables e below (T.setTop g) target) ∨
    (∃ (q : Addr) (vm₁ : Vm) (B : Pt), s.WarmedH vm₁ ∧ Stand p l e R s m args below meth c B.U B.locs B.cells B.slots ∧ PostX ⟨T.setVm vm₁, locs, cells, slots⟩ (Value.ref b :: argsL).toArray q B ∧
      Steps p.tables e below (T.setTop g) ((B.U.setTop { g with stack := rest }).pushFrame (.throwing q))) := by
  obtain ⟨mk, methM, hnamed, hmethM, hstM, habM⟩ := Cond.instanceMethod_spec hinst
  obtain ⟨methM', cM, hmethM', -, -, -, -, -, -, hsigM⟩ := Cond.code_spec hnamed hcode
  cases hmethM.symm.trans hmethM'
  obtain ⟨c2, r2, m2, q1, q2, q3, q4, kP, hkP, hkPi⟩ := Cond.selects_spec hsel
  cases hcls.symm.trans q1
  cases (State.methodFound?_of_named hnamed hy).symm.trans q2
  cases hnamed.symm.trans q3
  have hselP : selectMethod e.platform s.vm cellB.cls mk = .method mk := by rw [Launch.admits_selectMethod X.admits]; exact q4
  obtain ⟨vm₁, X₁, hstep₁⟩ := X.invokevirtual hexec hown hlink hnamed hmethM hstM hkP hkPi hy (a := b) (cell := cellB) hcell
    (fun z h => by rw [h] at hobj; cases hobj) hselP hmethM habM hkP hkPi (g := g) hg (argsL := argsL) (rest := rest) (hlen _ hsigM) hstack hdg
  rcases hK m meth c ⟨T.setVm vm₁, locs, cells, slots⟩ { g with stack := rest } (.invokevirtual index) mk (Value.ref b :: argsL).toArray X₁ hg hsize hdg hW (X₁.named hnamed) (hpre vm₁ X₁.warmed) with ⟨v, B, X', hpost, hsteps⟩ | ⟨q, B, X', hpost, hsteps⟩
  · exact Or.inl ⟨v, vm₁, B, X₁.warmed, X', hpost, fun target h => hstep₁ _ fun acts => by rw [doInvoke_state]; exact hsteps.trans h⟩
  · exact Or.inr ⟨q, vm₁, B, X₁.warmed, X', hpost, hstep₁ _ fun acts => by rw [doInvoke_state]; exact hsteps⟩
theorem vx_callS (X : Stand p l e R s m args below meth c T locs cells slots) (hexec : p.tables.exec = Jvm.exec) {own : String} {index : Nat} {y : MethodName} {bytes : ByteArray} {maxL : Nat} {ret : Option FieldType}
    (hown : s.vm.findClass own = some m.cls) (hlink : (Cond.methodLink own index y).before args s = true) (hstat : (Cond.static y).before args s = true) (hinit : (Cond.initialized y.cls).before args s = true)
    (hcode : (Cond.code y bytes maxL ret).before args s = true) (hy : y.cls ≠ "java/lang/invoke/MethodHandle" ∧ y.cls ≠ "java/lang/invoke/VarHandle")
    {W9 : Nat} {Pre : Pt → Array Value → Prop} {Post : Pt → Array Value → Option Value → Pt → Prop} {PostX : Pt → Array Value → Addr → Pt → Prop} (hK : vx_Back l R p e below s args y 3 W9 Pre Post PostX)
    {g : JFrame} (hg : g.method = m) (hsize : g.locals.size = c.maxLocals) {argsL rest : List Value} (hlen : ∀ sig, parseMethodDescriptor y.desc = some sig → argsL.length = sig.parameters.length)
    (hstack : g.stack = argsL.reverse ++ rest) (hW : 2 * g.monitorRoom + (rest.map fun v => v.category).sum ≤ W9) (hdg : decode c.code g.pc = .ok (.invokestatic index, 3))
    (hpre : ∀ vm₁, s.WarmedH vm₁ → Pre ⟨T.setVm vm₁, locs, cells, slots⟩ argsL.toArray) :
    (∃ (v : Option Value) (vm₁ : Vm) (B : Pt), s.WarmedH vm₁ ∧ Stand p l e R s m args below meth c B.U B.locs B.cells B.slots ∧ Post ⟨T.setVm vm₁, locs, cells, slots⟩ argsL.toArray v B ∧
      ∀ target, Steps p.tables e below (B.U.setTop { g with pc := g.pc + 3, stack := v.toList ++ rest }) target → Steps p.tables e below (T.setTop g) target) ∨
    (∃ (q : Addr) (vm₁ : Vm) (B : Pt), s.WarmedH vm₁ ∧ Stand p l e R s m args below meth c B.U B.locs B.cells B.slots ∧ PostX ⟨T.setVm vm₁, locs, cells, slots⟩ argsL.toArray q B ∧
      Steps p.tables e below (T.setTop g) ((B.U.setTop { g with stack := rest }).pushFrame (.throwing q))) := by
  obtain ⟨mk, hnamed⟩ := Cond.code_named hcode
  obtain ⟨methM, cM, hmethM, -, -, -, -, -, -, hsigM⟩ := Cond.code_spec hnamed hcode
  have hstatic : methM.isStatic = true := Cond.static_spec hnamed hmethM hstat
  obtain ⟨kP, hkP, -⟩ := className_of_methodNamed hnamed
  have hinitP : kP.init = .initialized := Cond.initialized_spec (findClass_of_methodNamed hnamed) hkP hinit
  obtain ⟨vm₁, X₁, hstep₁⟩ := X.invokestatic hexec hown hlink hnamed hmethM hstatic hkP hinitP hy (g := g) hg (argsL := argsL) (rest := rest) (hlen _ hsigM) hstack hdg
  rcases hK m meth c ⟨T.setVm vm₁, locs, cells, slots⟩ { g with stack := rest } (.invokestatic index) mk argsL.toArray X₁ hg hsize hdg hW (X₁.named hnamed) (hpre vm₁ X₁.warmed) with ⟨v, B, X', hpost, hsteps⟩ | ⟨q, B, X', hpost, hsteps⟩
  · exact Or.inl ⟨v, vm₁, B, X₁.warmed, X', hpost, fun target h => hstep₁ _ fun acts => by rw [doInvoke_state]; exact hsteps.trans h⟩
  · exact Or.inr ⟨q, vm₁, B, X₁.warmed, X', hpost, hstep₁ _ fun acts => by rw [doInvoke_state]; exact hsteps⟩
end Calls
theorem vx_cls {s : State} {T : State} {vm₁ : Vm} {E : String} {k : ClassId} (hW : s.WarmedH vm₁) (h : (T.setVm vm₁).vm.findClass E = some k) : s.vm.findClass E = some k := by
  have h1 : vm₁.findClass E = some k := h
  rw [hW.alike.findClass] at h1
  exact h1
/-- the method's frame g, with q thrown over it -/
def vx_W (p : Program) (l : Launch) (e : Env) (R : Room) (s : State) (m : MethodId) (args : Array Value) (below : List Frame) (meth : Method) (c : Code) (H : Heap) (locs : List Loc) (cells slots : Nat) (Q : State → Prop) (g : JFrame) (q : Addr) : Prop :=
  ∀ T : State, T.heap = H → Stand p l e R s m args below meth c T locs cells slots → ∃ t, Steps p.tables e below ((T.setTop g).pushFrame (.throwing q)) t ∧ Q t
def vx_Run (p : Program) (l : Launch) (e : Env) (R : Room) (s : State) (m : MethodId) (args : Array Value) (below : List Frame) (meth : Method) (c : Code) (H : Heap) (locs : List Loc) (cells slots mc ms : Nat) (g : JFrame) (rest : List Value) (Qa : State → Outcome → State → Prop) (XC : String → State → State → Prop) (free : Addr → Prop) : Prop :=
  ∀ T : State, T.heap = H → Stand p l e R s m args below meth c T locs cells slots →
    (∃ (v : Option Value) (st₀ t T' : State) (L : List Loc), st₀.heap = H ∧ Stand p l e R s m args below meth c T' (locs ++ L) (cells + mc) (slots + ms) ∧ (∀ q ∈ L, free q.base) ∧ T'.heap = t.heap ∧ T'.vm = t.vm ∧ Qa st₀ (.returned v) t ∧
      Goes p e below T g T' { g with pc := g.pc + 3, stack := v.toList ++ rest }) ∨
    (∃ (q : Addr) (st₀ t T' : State) (L : List Loc) (E : String) (ce : Cell), st₀.heap = H ∧ Stand p l e R s m args below meth c T' (locs ++ L) (cells + mc) (slots + ms) ∧ (∀ z ∈ L, free z.base) ∧ T'.heap = t.heap ∧ T'.vm = t.vm ∧ XC E st₀ t ∧ t.heap[q]? = some ce ∧ ce.vm = .none ∧ s.vm.findClass E = some ce.cls ∧
      Steps p.tables e below (T.setTop g) ((T'.setTop { g with stack := rest }).pushFrame (.throwing q)))
def vx_X {S : Type} (px : S → Prop) (B : String → S → State → Prop) (A : Nat → Prop) : String → State → State → Prop := fun E st t => ∃ u : S, px u ∧ B E u t ∧ va_F A st t
section Runs
variable {p : Program} {l : Launch} {e : Env} {R : Room} {s : State} {m : MethodId} {args : Array Value} {below : List Frame} {meth : Method} {c : Code} {H : Heap} {locs : List Loc} {cells slots : Nat}
variable {y : MethodName} {bytes cc : ByteArray} {maxL nL mc ms n index : Nat} {ret : Option FieldType} {ws : List Cond} {rm : Room} {Pc : Array Value → State → Prop} {Qc : Array Value → State → Outcome → State → Prop} {XC : String → State → State → Prop} {free : Addr → Prop} {Ts : List Cond} {own C : String} {b : Addr} {As rest : List Value} {g : JFrame}
theorem vx_callBack (cb : CallB R s args own index y bytes maxL ret ws rm mc ms n) (hM : vx_Met l y ws rm Pc Qc XC mc ms free) (hbl : FrameBlind Pc) : vx_Back l R p e below s args y 3 8 (PreOf R mc ms Pc) (PostOf Qc mc ms free) (vx_Post XC mc ms free) := by
  obtain ⟨hrc, hrs, hfr, hlo, hws, hcw, -, hini, -⟩ := cb
  exact vx_back (bytes := bytes) (maxL := maxL) (ret := ret) hM hbl hrc hrs hfr hlo hws hcw (fun a' U hW => word_at hW (Or.inl (by first | rfl | simp [Cond.onTables, Cond.keeps, Cond.steady])) hini)
theorem vx_runV (S : CallFix p m c cc nL s args Ts own) (hM : vx_Met l y ws rm Pc Qc XC mc ms free) (cw : CallW R s args own C index y bytes maxL ret ws rm mc ms n) (hp : PreV s H C b Pc As)
    (hg : g.method = m) (hn : As.length = n) (hsize : g.locals.size = nL) (hstack : g.stack = As.reverse ++ .ref b :: rest) (hW : 2 * g.monitorRoom + (rest.map fun v => v.category).sum ≤ 8) (hdg : decode cc g.pc = .ok (.invokevirtual index, 3)) (hf : cells + mc ≤ R.cells ∧ slots + ms ≤ R.slots) :
    vx_Run p l e R s m args below meth c H locs cells slots mc ms g rest (Qc (Value.ref b :: As).toArray) XC free := by
  have hK : vx_Back l R p e below s args y 3 8 (PreOf R mc ms Pc) (PostOf Qc mc ms free) (vx_Post XC mc ms free) := vx_callBack cw.1 hM hp.1
  obtain ⟨⟨-, -, -, -, -, -, hcode, -, hy, hlen, hl⟩, hin, hse⟩ := cw
  obtain ⟨hx, hb, hml, ho, -⟩ := S
  obtain ⟨-, ⟨cellB, hcB, hoB, hclB⟩, hPc⟩ := hp
  intro T hT X
  rcases vx_callV X hx (C := C) (bytes := bytes) (maxL := maxL) (ret := ret) ho hl hin hse hcode hy hK (by rw [hT]; exact hcB) hoB hclB hg (hsize.trans hml.symm) (argsL := As) (rest := rest) (fun sig h => hn.trans (hlen sig h)) hstack hW (by rw [hb]; exact hdg)
    (fun vm₁ hW₁ => ⟨hf.1, hf.2, hPc (T.setVm vm₁) hT hW₁⟩) with ⟨v, vm₁, ⟨U', l2, c2, s2⟩, hW₁, X', ⟨g', mk, t, L, e1, e2, hq, h1, hL, h2, h3⟩, st⟩ | ⟨q, vm₁, ⟨U', l2, c2, s2⟩, hW₁, X', ⟨g', mk, t, L, E, ce, e1, e2, hq, hce, hcv, hcl, h1, hL, h2, h3⟩, st⟩
  · dsimp only [Pt.U, Pt.locs, Pt.cells, Pt.slots] at X' e1 e2 h1 h2 h3 st
    subst h1; subst h2; subst h3
    exact Or.inl ⟨v, (T.setVm vm₁).calling g' mk (Value.ref b :: As).toArray, t, U', L, hT, X', hL, e1, e2, hq, st⟩
  · dsimp only [Pt.U, Pt.locs, Pt.cells, Pt.slots] at X' e1 e2 h1 h2 h3 st hcl
    subst h1; subst h2; subst h3
    exact Or.inr ⟨q, (T.setVm vm₁).calling g' mk (Value.ref b :: As).toArray, t, U', L, E, ce, hT, X', hL, e1, e2, hq, hce, hcv, vx_cls hW₁ hcl, st⟩
theorem vx_runS (S : CallFix p m c cc nL s args Ts own) (hM : vx_Met l y ws rm Pc Qc XC mc ms free) (cw : CallB R s args own index y bytes maxL ret ws rm mc ms n ∧ (Cond.static y).before args s = true) (hp : PreS s H Pc As)
    (hg : g.method = m) (hn : As.length = n) (hsize : g.locals.size = nL) (hstack : g.stack = As.reverse ++ rest) (hW : 2 * g.monitorRoom + (rest.map fun v => v.category).sum ≤ 8) (hdg : decode cc g.pc = .ok (.invokestatic index, 3)) (hf : cells + mc ≤ R.cells ∧ slots + ms ≤ R.slots) :
    vx_Run p l e R s m args below meth c H locs cells slots mc ms g rest (Qc As.toArray) XC free := by
  have hK : vx_Back l R p e below s args y 3 8 (PreOf R mc ms Pc) (PostOf Qc mc ms free) (vx_Post XC mc ms free) := vx_callBack cw.1 hM hp.1
  obtain ⟨⟨-, -, -, -, -, -, hcode, hini, hy, hlen, hl⟩, hstt⟩ := cw
  obtain ⟨hx, hb, hml, ho, -⟩ := S
  intro T hT X
  rcases vx_callS X hx (bytes := bytes) (maxL := maxL) (ret := ret) ho hl hstt hini hcode hy hK hg (hsize.trans hml.symm) (argsL := As) (rest := rest) (fun sig h => hn.trans (hlen sig h)) hstack hW (by rw [hb]; exact hdg)
    (fun vm₁ hW₁ => ⟨hf.1, hf.2, hp.2 (T.setVm vm₁) hT hW₁⟩) with ⟨v, vm₁, ⟨U', l2, c2, s2⟩, hW₁, X', ⟨g', mk, t, L, e1, e2, hq, h1, hL, h2, h3⟩, st⟩ | ⟨q, vm₁, ⟨U', l2, c2, s2⟩, hW₁, X', ⟨g', mk, t, L, E, ce, e1, e2, hq, hce, hcv, hcl, h1, hL, h2, h3⟩, st⟩
  · dsimp only [Pt.U, Pt.locs, Pt.cells, Pt.slots] at X' e1 e2 h1 h2 h3 st
    subst h1; subst h2; subst h3
    exact Or.inl ⟨v, (T.setVm vm₁).calling g' mk As.toArray, t, U', L, hT, X', hL, e1, e2, hq, st⟩
  · dsimp only [Pt.U, Pt.locs, Pt.cells, Pt.slots] at X' e1 e2 h1 h2 h3 st hcl
    subst h1; subst h2; subst h3
    exact Or.inr ⟨q, (T.setVm vm₁).calling g' mk As.toArray, t, U', L, E, ce, hT, X', hL, e1, e2, hq, hce, hcv, vx_cls hW₁ hcl, st⟩
end Runs
section Rows
variable {p : Program} {l : Launch} {e : Env} {R : Room} {s : State} {m : MethodId} {args : Array Value} {below : List Frame} {meth : Method} {c : Code} {H : Heap} {locs : List Loc} {cells slots : Nat} {Q : State → Prop}
variable {mc ms : Nat} {free : Addr → Prop} {A0 A1 : Nat → Prop} {H0 : Heap} {a : Array Value} {pc : Nat} {ls : Array Slot} {st0 rest : List Value}
theorem vx_keep {st₀ t T' : State} {L : List Loc} (h0 : st₀.heap = H) (e1 : T'.heap = t.heap) (hS : va_S A0 H0 H locs) (hA : ∀ q, q < H.size → A1 q → A0 q) (hf : ∀ q, free q → A0 q) (hL : ∀ q ∈ L, free q.base) (hF : va_F A1 st₀ t) :
    H.size ≤ T'.heap.size ∧ (∀ q : Nat, q < H.size → ¬ A1 q → T'.heap[q]? = H[q]?) ∧ va_S A0 H0 T'.heap (locs ++ L) := by
  obtain ⟨hz, hk⟩ := hF
  rw [h0] at hz hk
  exact ⟨by rw [e1]; exact hz, fun q h1 h2 => by rw [e1]; exact hk q h1 h2,
    ⟨Nat.le_trans hS.1 (by rw [e1]; exact hz), fun q h1 h2 => by rw [e1, hk q (Nat.lt_of_lt_of_le h1 hS.1) (fun z => h2 (hA q (Nat.lt_of_lt_of_le h1 hS.1) z))]; exact hS.2.1 q h1 h2, fun q hq => by
      rcases List.mem_append.mp hq with h | h
      · exact hS.2.2 q h
      · exact hf _ (hL q h)⟩⟩
theorem vx_calli {S SX : Type} {post : Int32 → S → Prop} {px : SX → Prop} {B : S → State → Prop} {BX : String → SX → State → Prop} {AX : Nat → Prop} (hr : vx_Run p l e R s m args below meth c H locs cells slots mc ms (F0 m pc ls st0) rest (va_Qi post B A1 a) (vx_X px BX AX) free) (hS : va_S A0 H0 H locs) (hA : ∀ q, q < H.size → A1 q → A0 q) (hf : ∀ q, free q → A0 q) (hAX : ∀ q, q < H.size → AX q → A0 q)
    (kx : ∀ (E : String) (ce : Cell) (q9 : Addr) (u : SX) (t : State) (H1 : Heap) (locs1 : List Loc), t.heap = H1 → s.vm.Alike t.vm → px u → BX E u t → H.size ≤ H1.size → (∀ q : Nat, q < H.size → ¬ AX q → H1[q]? = H[q]?) → va_S A0 H0 H1 locs1 → H1[q9]? = some ce → ce.vm = .none → s.vm.findClass E = some ce.cls → vx_W p l e R s m args below meth c H1 locs1 (cells + mc) (slots + ms) Q (F0 m pc ls rest) q9)
    (kk : ∀ (r : Int32) (u : S) (t : State) (H1 : Heap) (locs1 : List Loc), t.heap = H1 → s.vm.Alike t.vm → post r u → B u t → H.size ≤ H1.size → (∀ q : Nat, q < H.size → ¬ A1 q → H1[q]? = H[q]?) → va_S A0 H0 H1 locs1 → W p l e R s m args below meth c H1 locs1 (cells + mc) (slots + ms) Q (F0 m (pc + 3) ls (.int r :: rest))) : W p l e R s m args below meth c H locs cells slots Q (F0 m pc ls st0) := by
  intro T hT X
  rcases hr T hT X with ⟨v, st₀, t, T', L, h0, X', hL, e1, e2, ⟨⟨r, u, hv, hp, hb⟩, hF⟩, st⟩ | ⟨q, st₀, t, T', L, E, ce, h0, X', hL, e1, e2, ⟨u, hp, hb, hF⟩, hce, hcv, hcl, st⟩
  · cases hv
    obtain ⟨k1, k2, k3⟩ := vx_keep h0 e1 hS hA hf hL hF
    obtain ⟨t2, a1, b1⟩ := kk r u t T'.heap (locs ++ L) e1.symm (by rw [← e2]; exact X'.warmed.alike) hp hb k1 k2 k3 T' rfl X'
    exact ⟨t2, st t2 a1, b1⟩
  · obtain ⟨k1, k2, k3⟩ := vx_keep h0 e1 hS hAX hf hL hF
    obtain ⟨t2, a1, b1⟩ := kx E ce q u t T'.heap (locs ++ L) e1.symm (by rw [← e2]; exact X'.warmed.alike) hp hb k1 k2 k3 (by rw [e1]; exact hce) hcv hcl T' rfl X'
    exact ⟨t2, st.trans a1, b1⟩
theorem vx_calll {S SX : Type} {post : Int64 → S → Prop} {px : SX → Prop} {B : S → State → Prop} {BX : String → SX → State → Prop} {AX : Nat → Prop} (hr : vx_Run p l e R s m args below meth c H locs cells slots mc ms (F0 m pc ls st0) rest (va_Ql post B A1 a) (vx_X px BX AX) free) (hS : va_S A0 H0 H locs) (hA : ∀ q, q < H.size → A1 q → A0 q) (hf : ∀ q, free q → A0 q) (hAX : ∀ q, q < H.size → AX q → A0 q)
    (kx : ∀ (E : String) (ce : Cell) (q9 : Addr) (u : SX) (t : State) (H1 : Heap) (locs1 : List Loc), t.heap = H1 → s.vm.Alike t.vm → px u → BX E u t → H.size ≤ H1.size → (∀ q : Nat, q < H.size → ¬ AX q → H1[q]? = H[q]?) → va_S A0 H0 H1 locs1 → H1[q9]? = some ce → ce.vm = .none → s.vm.findClass E = some ce.cls → vx_W p l e R s m args below meth c H1 locs1 (cells + mc) (slots + ms) Q (F0 m pc ls rest) q9)
    (kk : ∀ (r : Int64) (u : S) (t : State) (H1 : Heap) (locs1 : List Loc), t.heap = H1 → s.vm.Alike t.vm → post r u → B u t → H.size ≤ H1.size → (∀ q : Nat, q < H.size → ¬ A1 q → H1[q]? = H[q]?) → va_S A0 H0 H1 locs1 → W p l e R s m args below meth c H1 locs1 (cells + mc) (slots + ms) Q (F0 m (pc + 3) ls (.long r :: rest))) : W p l e R s m args below meth c H locs cells slots Q (F0 m pc ls st0) := by
  intro T hT X
  rcases hr T hT X with ⟨v, st₀, t, T', L, h0, X', hL, e1, e2, ⟨⟨r, u, hv, hp, hb⟩, hF⟩, st⟩ | ⟨q, st₀, t, T', L, E, ce, h0, X', hL, e1, e2, ⟨u, hp, hb, hF⟩, hce, hcv, hcl, st⟩
  · cases hv
    obtain ⟨k1, k2, k3⟩ := vx_keep h0 e1 hS hA hf hL hF
    obtain ⟨t2, a1, b1⟩ := kk r u t T'.heap (locs ++ L) e1.symm (by rw [← e2]; exact X'.warmed.alike) hp hb k1 k2 k3 T' rfl X'
    exact ⟨t2, st t2 a1, b1⟩
  · obtain ⟨k1, k2, k3⟩ := vx_keep h0 e1 hS hAX hf hL hF
    obtain ⟨t2, a1, b1⟩ := kx E ce q u t T'.heap (locs ++ L) e1.symm (by rw [← e2]; exact X'.warmed.alike) hp hb k1 k2 k3 (by rw [e1]; exact hce) hcv hcl T' rfl X'
    exact ⟨t2, st.trans a1, b1⟩
theorem vx_callf {S SX : Type} {post : UInt32 → S → Prop} {px : SX → Prop} {B : S → State → Prop} {BX : String → SX → State → Prop} {AX : Nat → Prop} (hr : vx_Run p l e R s m args below meth c H locs cells slots mc ms (F0 m pc ls st0) rest (va_Qf post B A1 a) (vx_X px BX AX) free) (hS : va_S A0 H0 H locs) (hA : ∀ q, q < H.size → A1 q → A0 q) (hf : ∀ q, free q → A0 q) (hAX : ∀ q, q < H.size → AX q → A0 q)
    (kx : ∀ (E : String) (ce : Cell) (q9 : Addr) (u : SX) (t : State) (H1 : Heap) (locs1 : List Loc), t.heap = H1 → s.vm.Alike t.vm → px u → BX E u t → H.size ≤ H1.size → (∀ q : Nat, q < H.size → ¬ AX q → H1[q]? = H[q]?) → va_S A0 H0 H1 locs1 → H1[q9]? = some ce → ce.vm = .none → s.vm.findClass E = some ce.cls → vx_W p l e R s m args below meth c H1 locs1 (cells + mc) (slots + ms) Q (F0 m pc ls rest) q9)
    (kk : ∀ (r : UInt32) (u : S) (t : State) (H1 : Heap) (locs1 : List Loc), t.heap = H1 → s.vm.Alike t.vm → post r u → B u t → H.size ≤ H1.size → (∀ q : Nat, q < H.size → ¬ A1 q → H1[q]? = H[q]?) → va_S A0 H0 H1 locs1 → W p l e R s m args below meth c H1 locs1 (cells + mc) (slots + ms) Q (F0 m (pc + 3) ls (.float r :: rest))) : W p l e R s m args below meth c H locs cells slots Q (F0 m pc ls st0) := by
  intro T hT X
  rcases hr T hT X with ⟨v, st₀, t, T', L, h0, X', hL, e1, e2, ⟨⟨r, u, hv, hp, hb⟩, hF⟩, st⟩ | ⟨q, st₀, t, T', L, E, ce, h0, X', hL, e1, e2, ⟨u, hp, hb, hF⟩, hce, hcv, hcl, st⟩
  · cases hv
    obtain ⟨k1, k2, k3⟩ := vx_keep h0 e1 hS hA hf hL hF
    obtain ⟨t2, a1, b1⟩ := kk r u t T'.heap (locs ++ L) e1.symm (by rw [← e2]; exact X'.warmed.alike) hp hb k1 k2 k3 T' rfl X'
    exact ⟨t2, st t2 a1, b1⟩
  · obtain ⟨k1, k2, k3⟩ := vx_keep h0 e1 hS hAX hf hL hF
    obtain ⟨t2, a1, b1⟩ := kx E ce q u t T'.heap (locs ++ L) e1.symm (by rw [← e2]; exact X'.warmed.alike) hp hb k1 k2 k3 (by rw [e1]; exact hce) hcv hcl T' rfl X'
    exact ⟨t2, st.trans a1, b1⟩
theorem vx_calld {S SX : Type} {post : UInt64 → S → Prop} {px : SX → Prop} {B : S → State → Prop} {BX : String → SX → State → Prop} {AX : Nat → Prop} (hr : vx_Run p l e R s m args below meth c H locs cells slots mc ms (F0 m pc ls st0) rest (va_Qd post B A1 a) (vx_X px BX AX) free) (hS : va_S A0 H0 H locs) (hA : ∀ q, q < H.size → A1 q → A0 q) (hf : ∀ q, free q → A0 q) (hAX : ∀ q, q < H.size → AX q → A0 q)
    (kx : ∀ (E : String) (ce : Cell) (q9 : Addr) (u : SX) (t : State) (H1 : Heap) (locs1 : List Loc), t.heap = H1 → s.vm.Alike t.vm → px u → BX E u t → H.size ≤ H1.size → (∀ q : Nat, q < H.size → ¬ AX q → H1[q]? = H[q]?) → va_S A0 H0 H1 locs1 → H1[q9]? = some ce → ce.vm = .none → s.vm.findClass E = some ce.cls → vx_W p l e R s m args below meth c H1 locs1 (cells + mc) (slots + ms) Q (F0 m pc ls rest) q9)
    (kk : ∀ (r : UInt64) (u : S) (t : State) (H1 : Heap) (locs1 : List Loc), t.heap = H1 → s.vm.Alike t.vm → post r u → B u t → H.size ≤ H1.size → (∀ q : Nat, q < H.size → ¬ A1 q → H1[q]? = H[q]?) → va_S A0 H0 H1 locs1 → W p l e R s m args below meth c H1 locs1 (cells + mc) (slots + ms) Q (F0 m (pc + 3) ls (.double r :: rest))) : W p l e R s m args below meth c H locs cells slots Q (F0 m pc ls st0) := by
  intro T hT X
  rcases hr T hT X with ⟨v, st₀, t, T', L, h0, X', hL, e1, e2, ⟨⟨r, u, hv, hp, hb⟩, hF⟩, st⟩ | ⟨q, st₀, t, T', L, E, ce, h0, X', hL, e1, e2, ⟨u, hp, hb, hF⟩, hce, hcv, hcl, st⟩
  · cases hv
    obtain ⟨k1, k2, k3⟩ := vx_keep h0 e1 hS hA hf hL hF
    obtain ⟨t2, a1, b1⟩ := kk r u t T'.heap (locs ++ L) e1.symm (by rw [← e2]; exact X'.warmed.alike) hp hb k1 k2 k3 T' rfl X'
    exact ⟨t2, st t2 a1, b1⟩
  · obtain ⟨k1, k2, k3⟩ := vx_keep h0 e1 hS hAX hf hL hF
    obtain ⟨t2, a1, b1⟩ := kx E ce q u t T'.heap (locs ++ L) e1.symm (by rw [← e2]; exact X'.warmed.alike) hp hb k1 k2 k3 (by rw [e1]; exact hce) hcv hcl T' rfl X'
    exact ⟨t2, st.trans a1, b1⟩
theorem vx_callv {S SX : Type} {post : S → Prop} {px : SX → Prop} {B : S → State → Prop} {BX : String → SX → State → Prop} {AX : Nat → Prop} (hr : vx_Run p l e R s m args below meth c H locs cells slots mc ms (F0 m pc ls st0) rest (va_Qv post B A1 a) (vx_X px BX AX) free) (hS : va_S A0 H0 H locs) (hA : ∀ q, q < H.size → A1 q → A0 q) (hf : ∀ q, free q → A0 q) (hAX : ∀ q, q < H.size → AX q → A0 q)
    (kx : ∀ (E : String) (ce : Cell) (q9 : Addr) (u : SX) (t : State) (H1 : Heap) (locs1 : List Loc), t.heap = H1 → s.vm.Alike t.vm → px u → BX E u t → H.size ≤ H1.size → (∀ q : Nat, q < H.size → ¬ AX q → H1[q]? = H[q]?) → va_S A0 H0 H1 locs1 → H1[q9]? = some ce → ce.vm = .none → s.vm.findClass E = some ce.cls → vx_W p l e R s m args below meth c H1 locs1 (cells + mc) (slots + ms) Q (F0 m pc ls rest) q9)
    (kk : ∀ (u : S) (t : State) (H1 : Heap) (locs1 : List Loc), t.heap = H1 → s.vm.Alike t.vm → post u → B u t → H.size ≤ H1.size → (∀ q : Nat, q < H.size → ¬ A1 q → H1[q]? = H[q]?) → va_S A0 H0 H1 locs1 → W p l e R s m args below meth c H1 locs1 (cells + mc) (slots + ms) Q (F0 m (pc + 3) ls (rest))) : W p l e R s m args below meth c H locs cells slots Q (F0 m pc ls st0) := by
  intro T hT X
  rcases hr T hT X with ⟨v, st₀, t, T', L, h0, X', hL, e1, e2, ⟨⟨u, hv, hp, hb⟩, hF⟩, st⟩ | ⟨q, st₀, t, T', L, E, ce, h0, X', hL, e1, e2, ⟨u, hp, hb, hF⟩, hce, hcv, hcl, st⟩
  · cases hv
    obtain ⟨k1, k2, k3⟩ := vx_keep h0 e1 hS hA hf hL hF
    obtain ⟨t2, a1, b1⟩ := kk u t T'.heap (locs ++ L) e1.symm (by rw [← e2]; exact X'.warmed.alike) hp hb k1 k2 k3 T' rfl X'
    exact ⟨t2, st t2 a1, b1⟩
  · obtain ⟨k1, k2, k3⟩ := vx_keep h0 e1 hS hAX hf hL hF
    obtain ⟨t2, a1, b1⟩ := kx E ce q u t T'.heap (locs ++ L) e1.symm (by rw [← e2]; exact X'.warmed.alike) hp hb k1 k2 k3 (by rw [e1]; exact hce) hcv hcl T' rfl X'
    exact ⟨t2, st.trans a1, b1⟩
/-- caught by the row x of this method's table; the rows ahead don't take it -/
theorem vx_catch {own name : String} {E : String} {ce : Cell} {q : Addr} (hown : s.vm.findClass own = some m.cls) (pre : List ExceptionTableEntry) (x : ExceptionTableEntry) (suf : List ExceptionTableEntry) (hsplit : c.exceptionTable.toList = pre ++ x :: suf)
    (hpass : ∀ z ∈ pre, covers z pc = false ∨ (z.catchType ≠ 0 ∧ ∃ nm : String, (Cond.classLink own z.catchType nm).before args s = true ∧ va_Nc E nm s)) (hx : covers x pc = true) (h0 : x.catchType ≠ 0)
    (hlink : (Cond.classLink own x.catchType name).before args s = true) (hcast : (Cond.castable E name).before args s = true) (hcell : H[q]? = some ce) (hv : ce.vm = .none) (hcl : s.vm.findClass E = some ce.cls)
    (kk : W p l e R s m args below meth c H locs cells slots Q (F0 m x.handlerPc ls [.ref q])) : vx_W p l e R s m args below meth c H locs cells slots Q (F0 m pc ls rest) q := by
  intro T hT X
  have hpl : e.platform.magicAccessors = ({} : Platform).magicAccessors := by rw [X.admits.platform]
  obtain ⟨c3, c4, hc3, hc4, hasg⟩ := Cond.castable_spec hcast
  cases Option.some.inj (hc3.symm.trans hcl)
  obtain ⟨c5, hc5, hcl5⟩ := Cond.classLink_spec hown hlink e.platform hpl
  cases Option.some.inj (hc4.symm.trans hc5)
  obtain ⟨vm', X', st⟩ := X.thenCaughtThrough q (g := F0 m pc ls rest) rfl (Steps.refl _) (by rw [hT]; exact hcell) (by rw [hv]; rfl) (by obtain ⟨k9, h9, -⟩ := Vm.findClass_spec hcl; exact ⟨k9, h9⟩) pre x suf hsplit
    (fun z hz => by
      rcases hpass z hz with h | ⟨hz0, nm, hl1, hn1⟩
      · exact Or.inl h
      · obtain ⟨c6, hc6, hcl6⟩ := Cond.classLink_spec hown hl1 e.platform hpl
        obtain ⟨a8, b8, h1, h2, h3⟩ := hn1
        cases Option.some.inj (h1.symm.trans hcl)
        cases Option.some.inj (h2.symm.trans hc6)
        exact Or.inr ⟨hz0, _, hcl6, h3⟩) hx (Or.inr ⟨h0, c4, hcl5, hasg⟩)
  obtain ⟨t, a1, b1⟩ := kk (T.setVm vm') hT X'
  exact ⟨t, st.trans a1, b1⟩
end Rows
section Ends
variable {p : Program} {l : Launch} {e : Env} {R : Room} {s : State} {m : MethodId} {args : Array Value} {below : List Frame} {meth : Method} {c : Code} {H : Heap} {locs : List Loc} {cells slots : Nat} {Q : State → Prop}
variable {mc ms : Nat} {free : Addr → Prop} {A0 A1 : Nat → Prop} {H0 : Heap} {a : Array Value} {ls : Array Slot} {st0 rest : List Value}
variable {Qc : Array Value → State → Outcome → State → Prop} {XC : String → State → State → Prop}
/-- what a body that may throw owes at its end -/
def vx_MQ (below : List Frame) (Qc : Array Value → State → Outcome → State → Prop) (XC : String → State → State → Prop) (a : Array Value) (s : State) (mc ms : Nat) (free : Addr → Prop) : State → Prop := fun t =>
  ∃ o, t.status = .running ∧ Ended t below o ∧ vx_Q Qc XC mc ms free a s o t
theorem vx_ret {g : JFrame} {mc ms : Nat} (k : W p l e R s m args below meth c H locs cells slots (MQ below Qc args s mc ms free) g) : W p l e R s m args below meth c H locs cells slots (vx_MQ below Qc XC args s mc ms free) g := by
  intro T hT X
  obtain ⟨t, a1, o, b1, b2, b3, b4⟩ := k T hT X
  exact ⟨t, a1, o, b1, b2, Or.inl ⟨b3, b4⟩⟩
/-- not caught here: it goes on to the caller -/
theorem vx_widen {g : JFrame} {q : Addr} {k n : Nat} (h1 : cells ≤ k) (h2 : slots ≤ n) (kk : vx_W p l e R s m args below meth c H locs k n Q g q) : vx_W p l e R s m args below meth c H locs cells slots Q g q := fun T hT X => kk T hT (stand_widen X h1 h2)
theorem vx_out {pc : Nat} {E : String} {ce : Cell} {q : Addr} {mc ms : Nat} (hout : ∀ x ∈ c.exceptionTable.toList, covers x pc = false) (hlocks : meth.locks = false) (hcell : H[q]? = some ce) (hv : ce.vm = .none) (hcl : s.vm.findClass E = some ce.cls)
    (hx : ∀ t : State, t.heap = H → s.vm.Alike t.vm → XC E s t) (hf : ∀ z ∈ locs, free z.base) (hc : cells ≤ mc) (hs : slots ≤ ms) :
    vx_W p l e R s m args below meth c H locs cells slots (vx_MQ below Qc XC args s mc ms free) (F0 m pc ls rest) q := by
  intro T hT X
  obtain ⟨st1, hrun, hend, hW, hsm⟩ := X.leaveThrown q (g := F0 m pc ls rest) rfl rfl rfl hout hlocks
  have hcell9 : (T.setFrames (.throwing q :: below)).heap[q]? = some ce := by
    show T.heap[q]? = some ce
    rw [hT]; exact hcell
  exact ⟨_, st1, .threw q, hrun, hend, Or.inr ⟨q, rfl, E, ce, locs, hx _ hT hW.alike, hcell9, hv, hcl, hW, hsm.mono hc hs, hf⟩⟩
theorem vx_frame {U : State} {k n : Nat} (h : s.sameButNew ({ U with vm := s.vm } : State) locs k n) : s.heap.size ≤ U.heap.size ∧ ∀ q : Nat, q < s.heap.size → (∀ z ∈ locs, z.base ≠ q) → U.heap[q]? = s.heap[q]? := by
  obtain ⟨-, h2, -, -, -, h6⟩ := h
  refine ⟨h2, fun q hq hz => ?_⟩
  obtain ⟨c9, e1, e2, e3, e4⟩ := h6 q _ (Array.getElem?_eq_getElem hq)
  have hs : c9.slots = (s.heap[q]).slots := Array.ext_getElem? fun i => e4 i fun hm => hz _ hm rfl
  have h9 : c9 = s.heap[q] := by
    rw [hs] at e2
    exact e2
  have e5 : U.heap[q]? = some c9 := e1
  rw [e5, h9, Array.getElem?_eq_getElem hq]
/-- the words of a throw but the four that speak of the heap -/
def vx_no (w : Cond) : Bool := decide (w ≠ .isRef (.static Bundle.tN "UNASSIGNED_STACK" Bundle.steD)) && decide (w ≠ .isRef (.static Bundle.tN "SUPPRESSED_SENTINEL" Bundle.listD)) && decide (w ≠ .laysStatic Bundle.tN "UNASSIGNED_STACK" Bundle.steD) && decide (w ≠ .laysStatic Bundle.tN "SUPPRESSED_SENTINEL" Bundle.listD)
def vx_at0 (own : String) (ic : Nat) (X : String) (names : List String) : List Cond := (Bundle.ownAtoms0 own ic X names).filter vx_no
def vx_atS (own : String) (ic : Nat) (X : String) (names : List String) : List Cond := (Bundle.ownAtoms own ic X names).filter vx_no
/-- a word that the tables alone decide, or a good one -/
def vx_ot (w : Cond) : Bool := w.onTables || goodWord w
theorem vx_ot_at {args a' : Array Value} {s U : State} {w : Cond} (hW : s.WarmedH U.vm) (hvm : s.vm = U.vm) (hg : vx_ot w = true) (h : w.before args s = true) : w.before a' U = true := by
  simp only [vx_ot, Bool.or_eq_true] at hg
  rcases hg with hg | hg
  · exact va_tabs hg hvm h
  · exact word_at hW (good_of_word hg) h
/-- a list's words: the good ones out of the method's own list, the others by premises of their own -/
theorem vx_hat {args : Array Value} {s : State} {L B : List Cond} (h1 : ∀ w ∈ L.filter goodWord, w.before args s = true) (h2 : ∀ w ∈ L.filter (fun w => !goodWord w), w ∈ B) (h3 : ∀ w ∈ B, w.before args s = true) : ∀ w ∈ L, w.before args s = true := by
  intro w hw
  by_cases g : goodWord w = true
  · exact h1 w (List.mem_filter.mpr ⟨hw, g⟩)
  · refine h3 w (h2 w (List.mem_filter.mpr ⟨hw, ?_⟩))
    show (!goodWord w) = true
    cases hgw : goodWord w
    · rfl
    · exact absurd hgw g
theorem vx_c {args : Array Value} {s : State} {w : Cond} {B : List Cond} (h : w.before args s = true) (t : ∀ w ∈ B, w.before args s = true) : ∀ w' ∈ w :: B, w'.before args s = true := fun w' h' => (List.mem_cons.mp h').elim (fun e => by rw [e]; exact h) (t w')
theorem vx_n {args : Array Value} {s : State} : ∀ w ∈ ([] : List Cond), w.before args s = true := fun _ h => nomatch h
theorem vx_own {args : Array Value} {s : State} {L : List Cond} (h1 : ∀ w ∈ L.filter vx_no, w.before args s = true)
    (hU : (Cond.isRef (.static Bundle.tN "UNASSIGNED_STACK" Bundle.steD)).before args s = true) (hN : (Cond.isRef (.static Bundle.tN "SUPPRESSED_SENTINEL" Bundle.listD)).before args s = true)
    (lU : (Cond.laysStatic Bundle.tN "UNASSIGNED_STACK" Bundle.steD).before args s = true) (lN : (Cond.laysStatic Bundle.tN "SUPPRESSED_SENTINEL" Bundle.listD).before args s = true) : ∀ w ∈ L, w.before args s = true := by
  intro w hw
  by_cases e1 : w = .isRef (.static Bundle.tN "UNASSIGNED_STACK" Bundle.steD)
  · rw [e1]; exact hU
  · by_cases e2 : w = .isRef (.static Bundle.tN "SUPPRESSED_SENTINEL" Bundle.listD)
    · rw [e2]; exact hN
    · by_cases e3 : w = .laysStatic Bundle.tN "UNASSIGNED_STACK" Bundle.steD
      · rw [e3]; exact lU
      · by_cases e4 : w = .laysStatic Bundle.tN "SUPPRESSED_SENTINEL" Bundle.listD
        · rw [e4]; exact lN
        · exact h1 w (List.mem_filter.mpr ⟨hw, by unfold vx_no; rw [decide_eq_true e1, decide_eq_true e2, decide_eq_true e3, decide_eq_true e4]; rfl⟩)
/-- where a static field lies, its class's statics cell in H -/
def vx_L (C n d : String) (A : Nat → Prop) (U : State) (H : Heap) : Prop := ∃ (c : ClassId) (k : Class) (i : Nat) (f : Field) (a : Nat) (cell : Cell), U.vm.findClass C = some c ∧ U.fieldFound? C n d = some (c, k, i, f) ∧ f.isStatic = true ∧ k.statics = some a ∧ H[a]? = some cell ∧ cell.vm.isStatics = true ∧ cell.cls = c ∧ f.slot < cell.slots.size ∧ k.staticTypes[f.slot]? = some f.type ∧ ¬ A a
theorem vx_L.moved {C n d : String} {A : Nat → Prop} {u U : State} {H : Heap} (hvm : u.vm.Alike U.vm) (h : vx_L C n d A u H) : vx_L C n d A U H := by
  obtain ⟨c, k, i, f, a, cell, h1, h2, h3, h4, h5, h6, h7, h8, h9, h10⟩ := h
  obtain ⟨k', hi', he⟩ := State.fieldFound?_setVm hvm h2
  exact ⟨c, k', i, f, a, cell, by rw [hvm.findClass]; exact h1, hi', h3, by rw [he]; exact h4, h5, h6, h7, h8, by rw [he]; exact h9, h10⟩
theorem vx_L.kept {C n d : String} {A : Nat → Prop} {U : State} {H H1 : Heap} (h : vx_L C n d A U H) (hq : ∀ a : Nat, a < H.size → ¬ A a → H1[a]? = H[a]?) : vx_L C n d A U H1 := by
  obtain ⟨c, k, i, f, a, cell, h1, h2, h3, h4, h5, h6, h7, h8, h9, h10⟩ := h
  exact ⟨c, k, i, f, a, cell, h1, h2, h3, h4, by rw [hq a (Array.getElem?_eq_some_iff.mp h5).1 h10]; exact h5, h6, h7, h8, h9, h10⟩
theorem vx_L.narrow {C n d : String} {A B : Nat → Prop} {U : State} {H : Heap} (h : vx_L C n d A U H) (hAB : ∀ q, B q → A q) : vx_L C n d B U H := by
  obtain ⟨c, k, i, f, a, cell, h1, h2, h3, h4, h5, h6, h7, h8, h9, h10⟩ := h
  exact ⟨c, k, i, f, a, cell, h1, h2, h3, h4, h5, h6, h7, h8, h9, fun z => h10 (hAB _ z)⟩
theorem vx_L.word {C n d : String} {A : Nat → Prop} {s : State} {args : Array Value} (h : vx_L C n d A s s.heap) : (Cond.laysStatic C n d).before args s = true := by
  obtain ⟨c, k, i, f, a, cell, h1, h2, h3, h4, h5, h6, h7, h8, h9, -⟩ := h
  show (Cond.laysStatic C n d).holds args s none s [] = true
  exact Cond.laysStatic_of h1 h2 h3 h4 h5 h6 h7 h8 h9
/-- .. and what it holds: null or some reference -/
def vx_Zq (C n d : String) (A : Nat → Prop) (U : State) (H : Heap) : Prop := va_Zq C n d A U H ∧ vx_L C n d A U H
theorem vx_Zq.moved {C n d : String} {A : Nat → Prop} {u U : State} {H : Heap} (hvm : u.vm.Alike U.vm) (h : vx_Zq C n d A u H) : vx_Zq C n d A U H := ⟨va_Zq.moved hvm h.1, vx_L.moved hvm h.2⟩
theorem vx_Zq.kept {C n d : String} {A : Nat → Prop} {U : State} {H H1 : Heap} (h : vx_Zq C n d A U H) (hq : ∀ a : Nat, a < H.size → ¬ A a → H1[a]? = H[a]?) : vx_Zq C n d A U H1 := ⟨va_Zq.kept h.1 hq, vx_L.kept h.2 hq⟩
theorem vx_Zq.narrow {C n d : String} {A B : Nat → Prop} {U : State} {H : Heap} (h : vx_Zq C n d A U H) (hAB : ∀ q, B q → A q) : vx_Zq C n d B U H := ⟨va_Zq.narrow h.1 hAB, vx_L.narrow h.2 hAB⟩
theorem vx_Zqof {args : Array Value} {s : State} {C n d : String} {A : Nat → Prop} (hl : (Cond.laysStatic C n d).before args s = true) (hini : (Cond.initialized C).before args s = true) (h : (Cond.isRef (.static C n d)).before args s = true) (hA : ∀ a : Nat, a < s.heap.size → ¬ A a) : vx_Zq C n d A s s.heap := by
  refine ⟨va_Zqof hl hini h hA, ?_⟩
  obtain ⟨c, k, i, f, a, cell, h1, h2, h3, h4, h5, h6, h7, h8, h9⟩ := Cond.laysStatic_spec hl
  exact ⟨c, k, i, f, a, cell, h1, h2, h3, h4, h5, h6, h7, h8, h9, hA a (Array.getElem?_eq_some_iff.mp h5).1⟩
theorem vx_isRef {C n d : String} {v : Value} {A : Nat → Prop} {s : State} {args : Array Value} (h : va_Z C n d v A s s.heap) (hv : v.isRef = true) : (Cond.isRef (.static C n d)).before args s = true := by
  obtain ⟨cf, kf, fi, f, a, cell, h1, h2, h3, h4, h5, h6, h7, -⟩ := h
  have he : (Term.static C n d).eval args s none [] s = some v := by
    simp [Term.eval, State.fieldNamed?, h1, h2, h4, h5, h6, h7]
  simp only [Cond.before, Cond.holds, Cond.value, he]
  cases v <;> simp_all [Value.isRef]
theorem vx_isRefq {C n d : String} {A : Nat → Prop} {s : State} {args : Array Value} (h : va_Zq C n d A s s.heap) : (Cond.isRef (.static C n d)).before args s = true := by
  rcases h with h | ⟨t, h⟩
  · exact vx_isRef h rfl
  · exact vx_isRef h rfl
/-- the same frame, seen from here: as if the method were called anew in this heap -/
theorem vx_rebase {T : State} (X : Stand p l e R s m args below meth c T locs cells slots) {R' : Room} (hf : R'.frames ≤ R.frames) (hl : R'.locals ≤ R.locals) (hc : cells + R'.cells ≤ R.cells) (hs : slots + R'.slots ≤ R.slots) :
    Stand p l e R' ((T.setVm s.vm).setFrames (.invoking m args :: below)) m args below meth c T [] 0 0 := by
  have htop : (T.setVm s.vm).topJava?.isSome := X.here.top
  have hF : ((T.setVm s.vm).setFrames (.invoking m args :: below)).frames = .invoking m args :: below := State.frames_setFrames _ (State.cur_lt_of_top htop)
  obtain ⟨g₀, hg0⟩ := Option.isSome_iff_exists.mp htop
  obtain ⟨r, hr⟩ := State.topJava?_eq_some.mp hg0
  have hl9 : e.platform.stackLimits (T.setVm s.vm).me = e.platform.stackLimits s.me := X.limits
  have hb9 : (T.setVm s.vm).me.stackBytes = s.me.stackBytes := X.bytes
  refine ⟨X.admits, X.cas, X.clock, hF, ?_, X.hears, X.method, X.code, X.here, X.tail, X.warmed, ?_, ?_, ?_⟩
  · have h := X.room
    have hU : ((T.setVm s.vm).setFrames (.invoking m args :: below)).localsInUse = s.localsInUse := by
      rw [State.localsInUse_invoking hF (meth := meth) (c := c) X.method X.code, State.localsInUse_invoking X.frames X.method X.code]
    simp only [State.hasRoom, Bool.and_eq_true, decide_eq_true_eq] at h ⊢
    obtain ⟨⟨⟨⟨h1, h2, h3, h4, h5, h6⟩, h7⟩, h8⟩, h9⟩ := h
    rw [X.frames, List.length_cons] at h2 h3
    have q1 := X.heapSize
    have q2 := X.used
    simp only [hF, hU, List.length_cons, State.stackLimits_setFrames, State.stackBytes_setFrames, hl9, hb9]
    refine ⟨⟨⟨⟨by omega, by omega, by omega, by omega, by omega, h6⟩, ?_⟩, ?_⟩, X.book⟩
    · show T.heap.size + R'.cells ≤ e.platform.maxCells
      omega
    · show T.slotsUsed + R'.slots ≤ e.platform.maxSlots
      omega
  · rw [State.stackLimits_setFrames]; rfl
  · rw [State.stackBytes_setFrames]; rfl
  · refine ⟨?_, Nat.le_refl _, Nat.le_refl _, ?_, ?_, fun a c9 h9 => ⟨c9, h9, rfl, rfl, fun _ _ => rfl⟩⟩
    · obtain ⟨t, ht, -⟩ := State.frames_cons hr
      show T.setVm s.vm = { ((T.setVm s.vm).setFrames (.invoking m args :: below)).setFrames (T.setVm s.vm).frames with heap := T.heap, slotsUsed := T.slotsUsed }
      rw [State.setFrames_setFrames, State.setFrames_self ht]
      rfl
    · show T.slotsUsed = T.slotsUsed + ((T.heap.toList.drop T.heap.size).map (·.slots.size)).sum
      rw [List.drop_eq_nil_of_le (Nat.le_of_eq Array.length_toList)]
      rfl
    · show ((T.heap.toList.drop T.heap.size).map (·.slots.size)).sum ≤ 0
      rw [List.drop_eq_nil_of_le (Nat.le_of_eq Array.length_toList)]
      exact Nat.le_refl _
/-- 'throw new E()': new; dup; invokespecial; athrow -/
theorem vx_throw0 {cc : ByteArray} {pc : Nat} (hexec : p.tables.exec = Jvm.exec) (hb : c.code = cc) (hl : l.stackTraces = false) {own cls : String} {names : List String} {ik ic mc ms : Nat} {A : Nat → Prop}
    (hown : s.vm.findClass own = some m.cls) (hcls : Bundle.fit cls = true) (hnames : ∀ n ∈ names, Bundle.fit n = true)
    (hk : (Cond.classLink own ik cls).before args s = true) (hini : (Cond.initialized cls).before args s = true) (hat : ∀ w ∈ vx_at0 own ic cls names, w.before args s = true)
    (hgood : ∀ w ∈ Cond.classLink own ik cls :: Cond.initialized cls :: vx_at0 own ic cls names, vx_ot w = true)
    (hU : vx_Zq Bundle.tN "UNASSIGNED_STACK" Bundle.steD A s s.heap) (hN : vx_Zq Bundle.tN "SUPPRESSED_SENTINEL" Bundle.listD A s s.heap) (hS : va_S A s.heap H locs) (hsize : ls.size = c.maxLocals)
    (d0 : decode cc pc = .ok (.new ik, 3)) (d3 : decode cc (pc + 3) = .ok (.dup, 1)) (d4 : decode cc (pc + 4) = .ok (.invokespecial ic, 3)) (d7 : decode cc (pc + 7) = .ok (.athrow, 1))
    (hout : ∀ x ∈ c.exceptionTable.toList, covers x (pc + 7) = false)
    (hRframes : names.length + 3 < R.frames) (hRlocals : (rest.map fun v => v.category).sum + (13 * (names.length + 1) + 42) ≤ R.locals) (hRcells : cells + 1 ≤ R.cells) (hRslots : slots + 6 ≤ R.slots) (hlocks : meth.locks = false)
    (hx : ∀ t : State, s.vm.Alike t.vm → H.size ≤ t.heap.size → (∀ q : Nat, q < H.size → t.heap[q]? = H[q]?) → XC cls s t)
    (hf : ∀ z ∈ locs, free z.base) (hc : cells + 1 ≤ mc) (hs : slots + 6 ≤ ms) :
    W p l e R s m args below meth c H locs cells slots (vx_MQ below Qc XC args s mc ms free) (F0 m pc ls rest) := by
  intro T hT X
  have htr : e.platform.stackTraces = false := (show e.platform.stackTraces = l.stackTraces by rw [X.admits.platform]).trans hl
  have Y := vx_rebase X (R' := { frames := R.frames, locals := R.locals, cells := 1, slots := 6 }) (Nat.le_refl _) (Nat.le_refl _) hRcells hRslots
  obtain ⟨s', hA⟩ : ∃ z, z = (T.setVm s.vm).setFrames (.invoking m args :: below) := ⟨_, rfl⟩
  rw [← hA] at Y
  have hvm : s'.vm = s.vm := by rw [hA]; rfl
  have hhp : s'.heap = H := by rw [hA]; exact hT
  have hW0 : s.WarmedH s'.vm := by rw [hvm]; exact State.WarmedH.refl s
  have hat' : ∀ w ∈ vx_at0 own ic cls names, w.before args s' = true := fun w hw => vx_ot_at hW0 hvm.symm (hgood w (List.mem_cons_of_mem _ (List.mem_cons_of_mem _ hw))) (hat w hw)
  have hk' : (Cond.classLink own ik cls).before args s' = true := vx_ot_at hW0 hvm.symm (hgood _ List.mem_cons_self) hk
  have hini' : (Cond.initialized cls).before args s' = true := vx_ot_at hW0 hvm.symm (hgood _ (List.mem_cons_of_mem _ List.mem_cons_self)) hini
  have hU' : vx_Zq Bundle.tN "UNASSIGNED_STACK" Bundle.steD A s' s'.heap := by rw [hhp]; exact vx_Zq.moved hW0.alike (hU.kept hS.2.1)
  have hN' : vx_Zq Bundle.tN "SUPPRESSED_SENTINEL" Bundle.listD A s' s'.heap := by rw [hhp]; exact vx_Zq.moved hW0.alike (hN.kept hS.2.1)
  have h : ∀ w ∈ Bundle.ownAtoms0 own ic cls names, w.before args s' = true := vx_own hat' (vx_isRefq hU'.1) (vx_isRefq hN'.1) hU'.2.word hN'.2.word
  have hown' : s'.vm.findClass own = some m.cls := by rw [hvm]; exact hown
  have hins : (Cond.instantiable cls 6).before args s' = true := h _ (by simp [Bundle.ownAtoms0])
  obtain ⟨vm₁, cX, kX, hfX, hkX, -, -, X₁, st1⟩ := Y.newCold hexec (own := own) (C := cls) (index := ik) (n := 6) hown' hk' hins hini'
    (g := F0 m pc ls rest) rfl (by rw [hb]; exact d0) (Nat.le_refl _) (Nat.le_refl _)
  generalize hT1 : (T.setVm vm₁).pushCell { cls := cX, slots := kX.instanceTypes.map defaultValue, vm := .none } = T1 at X₁ st1
  have hcat : (Value.ref T.heap.size).category = 1 := rfl
  have hcellA : T1.heap[T.heap.size]? = some (freshCell cX kX) := by rw [← hT1]; exact State.heap_pushCell_size _ _
  have d3' : decode c.code (pc + 3) = .ok (.dup, 1) := by rw [hb]; exact d3
  obtain ⟨U, hsteps, hrun, hend, hW, hsame, ce, hce, hO⟩ := X₁.ctorThrow0 hexec htr (own := own) (cls := cls) (names := names) (ic := ic) hown' hcls hnames h (fun x hx => nomatch hx) hfX hkX hcellA (by rw [hhp, hT]; exact Nat.le_refl _)
    (g := { method := m, pc := pc + 4, locals := ls, stack := .ref T.heap.size :: .ref T.heap.size :: rest, locked := none }) rfl hsize rfl rfl (rest := rest) rfl
    (by rw [hb]; exact d4) (by rw [hb]; exact d7) hout hRframes (by simp only [List.map_cons, List.sum_cons, hcat]; omega) hlocks
  obtain ⟨f1, f2⟩ := vx_frame hsame
  rw [hhp] at f1 f2
  have hWs : s.WarmedH U.vm := State.WarmedH.trans hW0 hW
  have hcl : s.vm.findClass cls = some ce.cls := by
    have h9 := hO.cls
    rw [hvm] at h9
    exact h9
  have hall : s.sameButNew ({ U with vm := s.vm } : State) locs mc ms := by
    subst hA
    obtain ⟨e1, e2⟩ := hsame
    rw [State.setFrames_setFrames] at e1
    have h2 : (T.setVm s.vm).sameButNew ({ U with vm := s.vm } : State) [] (0 + 1) (0 + 6) := ⟨e1, e2⟩
    have h3 := X.same.trans h2
    rw [List.append_nil] at h3
    exact h3.mono hc hs
  refine ⟨U, ?_, .threw T.heap.size, hrun, hend, Or.inr ⟨T.heap.size, rfl, cls, ce, locs, hx U hWs.alike f1 (fun q hq => f2 q hq (fun z hz => nomatch hz)), hce, hO.vm, hcl, hWs, hall, hf⟩⟩
  refine st1 _ ?_
  show Steps p.tables e below (T1.setTop { method := m, pc := pc + 3, locals := ls, stack := .ref T.heap.size :: rest, locked := none }) _
  jvm_step X₁.here [X₁.here.top, hexec, d3', Value.category]
  exact hsteps
/-- 'throw new E("text")': new; dup; ldc; invokespecial; athrow -/
theorem vx_throwS {cc : ByteArray} {pc : Nat} (hexec : p.tables.exec = Jvm.exec) (hb : c.code = cc) (hl : l.stackTraces = false) {own cls text : String} {names : List String} {ik is ic mc ms sa : Nat} {A : Nat → Prop}
    (hown : s.vm.findClass own = some m.cls) (hcls : Bundle.fit cls = true) (hnames : ∀ n ∈ names, Bundle.fit n = true)
    (hk : (Cond.classLink own ik cls).before args s = true) (hini : (Cond.initialized cls).before args s = true) (hstr : vk_R own is text sa s) (hat : ∀ w ∈ vx_atS own ic cls names, w.before args s = true)
    (hgood : ∀ w ∈ Cond.classLink own ik cls :: Cond.initialized cls :: vx_atS own ic cls names, vx_ot w = true)
    (hU : vx_Zq Bundle.tN "UNASSIGNED_STACK" Bundle.steD A s s.heap) (hN : vx_Zq Bundle.tN "SUPPRESSED_SENTINEL" Bundle.listD A s s.heap) (hS : va_S A s.heap H locs) (hsize : ls.size = c.maxLocals)
    (d0 : decode cc pc = .ok (.new ik, 3)) (d3 : decode cc (pc + 3) = .ok (.dup, 1)) (d4 : decode cc (pc + 4) = .ok (.ldc is, 2)) (d6 : decode cc (pc + 6) = .ok (.invokespecial ic, 3)) (d9 : decode cc (pc + 9) = .ok (.athrow, 1))
    (hout : ∀ x ∈ c.exceptionTable.toList, covers x (pc + 9) = false)
    (hRframes : names.length + 3 < R.frames) (hRlocals : (rest.map fun v => v.category).sum + (13 * (names.length + 1) + 43) ≤ R.locals) (hRcells : cells + 1 ≤ R.cells) (hRslots : slots + 6 ≤ R.slots) (hlocks : meth.locks = false)
    (hx : ∀ t : State, s.vm.Alike t.vm → H.size ≤ t.heap.size → (∀ q : Nat, q < H.size → t.heap[q]? = H[q]?) → XC cls s t)
    (hf : ∀ z ∈ locs, free z.base) (hc : cells + 1 ≤ mc) (hs : slots + 6 ≤ ms) :
    W p l e R s m args below meth c H locs cells slots (vx_MQ below Qc XC args s mc ms free) (F0 m pc ls rest) := by
  intro T hT X
  have htr : e.platform.stackTraces = false := (show e.platform.stackTraces = l.stackTraces by rw [X.admits.platform]).trans hl
  have Y := vx_rebase X (R' := { frames := R.frames, locals := R.locals, cells := 1, slots := 6 }) (Nat.le_refl _) (Nat.le_refl _) hRcells hRslots
  obtain ⟨s', hA⟩ : ∃ z, z = (T.setVm s.vm).setFrames (.invoking m args :: below) := ⟨_, rfl⟩
  rw [← hA] at Y
  have hvm : s'.vm = s.vm := by rw [hA]; rfl
  have hhp : s'.heap = H := by rw [hA]; exact hT
  have hW0 : s.WarmedH s'.vm := by rw [hvm]; exact State.WarmedH.refl s
  have hat' : ∀ w ∈ vx_atS own ic cls names, w.before args s' = true := fun w hw => vx_ot_at hW0 hvm.symm (hgood w (List.mem_cons_of_mem _ (List.mem_cons_of_mem _ hw))) (hat w hw)
  have hk' : (Cond.classLink own ik cls).before args s' = true := vx_ot_at hW0 hvm.symm (hgood _ List.mem_cons_self) hk
  have hini' : (Cond.initialized cls).before args s' = true := vx_ot_at hW0 hvm.symm (hgood _ (List.mem_cons_of_mem _ List.mem_cons_self)) hini
  have hU' : vx_Zq Bundle.tN "UNASSIGNED_STACK" Bundle.steD A s' s'.heap := by rw [hhp]; exact vx_Zq.moved hW0.alike (hU.kept hS.2.1)
  have hN' : vx_Zq Bundle.tN "SUPPRESSED_SENTINEL" Bundle.listD A s' s'.heap := by rw [hhp]; exact vx_Zq.moved hW0.alike (hN.kept hS.2.1)
  have h : ∀ w ∈ Bundle.ownAtoms own ic cls names, w.before args s' = true := vx_own hat' (vx_isRefq hU'.1) (vx_isRefq hN'.1) hU'.2.word hN'.2.word
  have hown' : s'.vm.findClass own = some m.cls := by rw [hvm]; exact hown
  have hins : (Cond.instantiable cls 6).before args s' = true := h _ (by simp [Bundle.ownAtoms])
  obtain ⟨vm₁, cX, kX, hfX, hkX, -, -, X₁, st1⟩ := Y.newCold hexec (own := own) (C := cls) (index := ik) (n := 6) hown' hk' hins hini'
    (g := F0 m pc ls rest) rfl (by rw [hb]; exact d0) (Nat.le_refl _) (Nat.le_refl _)
  generalize hT1 : (T.setVm vm₁).pushCell { cls := cX, slots := kX.instanceTypes.map defaultValue, vm := .none } = T1 at X₁ st1
  have hcat : (Value.ref T.heap.size).category = 1 := rfl
  have hcellA : T1.heap[T.heap.size]? = some (freshCell cX kX) := by rw [← hT1]; exact State.heap_pushCell_size _ _
  have d3' : decode c.code (pc + 3) = .ok (.dup, 1) := by rw [hb]; exact d3
  have d4' : decode c.code (pc + 4) = .ok (.ldc is, 2) := by rw [hb]; exact d4
  have hstr' : vk_R own is text sa s' := vk_R.warm hW0 hstr
  obtain ⟨U, hsteps, hrun, hend, hW, hsame, ce, hce, hO⟩ := X₁.ctorThrowS hexec htr (own := own) (cls := cls) (names := names) (ic := ic) hown' hcls hnames h (fun x hx => nomatch hx) hfX hkX hcellA (by rw [hhp, hT]; exact Nat.le_refl _) (msg := .ref sa) rfl
    (g := { method := m, pc := pc + 6, locals := ls, stack := .ref sa :: .ref T.heap.size :: .ref T.heap.size :: rest, locked := none }) rfl hsize rfl rfl (rest := rest) rfl
    (by rw [hb]; exact d6) (by rw [hb]; exact d9) hout hRframes (by simp only [List.map_cons, List.sum_cons, hcat]; omega) hlocks
  obtain ⟨f1, f2⟩ := vx_frame hsame
  rw [hhp] at f1 f2
  have hWs : s.WarmedH U.vm := State.WarmedH.trans hW0 hW
  have hcl : s.vm.findClass cls = some ce.cls := by
    have h9 := hO.cls
    rw [hvm] at h9
    exact h9
  have hall : s.sameButNew ({ U with vm := s.vm } : State) locs mc ms := by
    subst hA
    obtain ⟨e1, e2⟩ := hsame
    rw [State.setFrames_setFrames] at e1
    have h2 : (T.setVm s.vm).sameButNew ({ U with vm := s.vm } : State) [] (0 + 1) (0 + 6) := ⟨e1, e2⟩
    have h3 := X.same.trans h2
    rw [List.append_nil] at h3
    exact h3.mono hc hs
  refine ⟨U, ?_, .threw T.heap.size, hrun, hend, Or.inr ⟨T.heap.size, rfl, cls, ce, locs, hx U hWs.alike f1 (fun q hq => f2 q hq (fun z hz => nomatch hz)), hce, hO.vm, hcl, hWs, hall, hf⟩⟩
  refine st1 _ ?_
  show Steps p.tables e below (T1.setTop { method := m, pc := pc + 3, locals := ls, stack := .ref T.heap.size :: rest, locked := none }) _
  jvm_step X₁.here [X₁.here.top, hexec, d3', Value.category]
  exact X₁.ldcString hexec (own := own) (text := text) (index := is) (a := sa) hown' hstr'.1 hstr'.2
    (g := { method := m, pc := pc + 4, locals := ls, stack := .ref T.heap.size :: .ref T.heap.size :: rest, locked := none }) rfl d4' _ hsteps
/-- 'throw new E("text")', the text by a wide index -/
theorem vx_throwSW {cc : ByteArray} {pc : Nat} (hexec : p.tables.exec = Jvm.exec) (hb : c.code = cc) (hl : l.stackTraces = false) {own cls text : String} {names : List String} {ik is ic mc ms sa : Nat} {A : Nat → Prop}
    (hown : s.vm.findClass own = some m.cls) (hcls : Bundle.fit cls = true) (hnames : ∀ n ∈ names, Bundle.fit n = true)
    (hk : (Cond.classLink own ik cls).before args s = true) (hini : (Cond.initialized cls).before args s = true) (hstr : vk_R own is text sa s) (hat : ∀ w ∈ vx_atS own ic cls names, w.before args s = true)
    (hgood : ∀ w ∈ Cond.classLink own ik cls :: Cond.initialized cls :: vx_atS own ic cls names, vx_ot w = true)
    (hU : vx_Zq Bundle.tN "UNASSIGNED_STACK" Bundle.steD A s s.heap) (hN : vx_Zq Bundle.tN "SUPPRESSED_SENTINEL" Bundle.listD A s s.heap) (hS : va_S A s.heap H locs) (hsize : ls.size = c.maxLocals)
    (d0 : decode cc pc = .ok (.new ik, 3)) (d3 : decode cc (pc + 3) = .ok (.dup, 1)) (d4 : decode cc (pc + 4) = .ok (.ldc_w is, 3)) (d7 : decode cc (pc + 7) = .ok (.invokespecial ic, 3)) (d10 : decode cc (pc + 10) = .ok (.athrow, 1))
    (hout : ∀ x ∈ c.exceptionTable.toList, covers x (pc + 10) = false)
    (hRframes : names.length + 3 < R.frames) (hRlocals : (rest.map fun v => v.category).sum + (13 * (names.length + 1) + 43) ≤ R.locals) (hRcells : cells + 1 ≤ R.cells) (hRslots : slots + 6 ≤ R.slots) (hlocks : meth.locks = false)
    (hx : ∀ t : State, s.vm.Alike t.vm → H.size ≤ t.heap.size → (∀ q : Nat, q < H.size → t.heap[q]? = H[q]?) → XC cls s t)
    (hf : ∀ z ∈ locs, free z.base) (hc : cells + 1 ≤ mc) (hs : slots + 6 ≤ ms) :
    W p l e R s m args below meth c H locs cells slots (vx_MQ below Qc XC args s mc ms free) (F0 m pc ls rest) := by
  intro T hT X
  have htr : e.platform.stackTraces = false := (show e.platform.stackTraces = l.stackTraces by rw [X.admits.platform]).trans hl
  have Y := vx_rebase X (R' := { frames := R.frames, locals := R.locals, cells := 1, slots := 6 }) (Nat.le_refl _) (Nat.le_refl _) hRcells hRslots
  obtain ⟨s', hA⟩ : ∃ z, z = (T.setVm s.vm).setFrames (.invoking m args :: below) := ⟨_, rfl⟩
  rw [← hA] at Y
  have hvm : s'.vm = s.vm := by rw [hA]; rfl
  have hhp : s'.heap = H := by rw [hA]; exact hT
  have hW0 : s.WarmedH s'.vm := by rw [hvm]; exact State.WarmedH.refl s
  have hat' : ∀ w ∈ vx_atS own ic cls names, w.before args s' = true := fun w hw => vx_ot_at hW0 hvm.symm (hgood w (List.mem_cons_of_mem _ (List.mem_cons_of_mem _ hw))) (hat w hw)
  have hk' : (Cond.classLink own ik cls).before args s' = true := vx_ot_at hW0 hvm.symm (hgood _ List.mem_cons_self) hk
  have hini' : (Cond.initialized cls).before args s' = true := vx_ot_at hW0 hvm.symm (hgood _ (List.mem_cons_of_mem _ List.mem_cons_self)) hini
  have hU' : vx_Zq Bundle.tN "UNASSIGNED_STACK" Bundle.steD A s' s'.heap := by rw [hhp]; exact vx_Zq.moved hW0.alike (hU.kept hS.2.1)
  have hN' : vx_Zq Bundle.tN "SUPPRESSED_SENTINEL" Bundle.listD A s' s'.heap := by rw [hhp]; exact vx_Zq.moved hW0.alike (hN.kept hS.2.1)
  have h : ∀ w ∈ Bundle.ownAtoms own ic cls names, w.before args s' = true := vx_own hat' (vx_isRefq hU'.1) (vx_isRefq hN'.1) hU'.2.word hN'.2.word
  have hown' : s'.vm.findClass own = some m.cls := by rw [hvm]; exact hown
  have hins : (Cond.instantiable cls 6).before args s' = true := h _ (by simp [Bundle.ownAtoms])
  obtain ⟨vm₁, cX, kX, hfX, hkX, -, -, X₁, st1⟩ := Y.newCold hexec (own := own) (C := cls) (index := ik) (n := 6) hown' hk' hins hini'
    (g := F0 m pc ls rest) rfl (by rw [hb]; exact d0) (Nat.le_refl _) (Nat.le_refl _)
  generalize hT1 : (T.setVm vm₁).pushCell { cls := cX, slots := kX.instanceTypes.map defaultValue, vm := .none } = T1 at X₁ st1
  have hcat : (Value.ref T.heap.size).category = 1 := rfl
  have hcellA : T1.heap[T.heap.size]? = some (freshCell cX kX) := by rw [← hT1]; exact State.heap_pushCell_size _ _
  have d3' : decode c.code (pc + 3) = .ok (.dup, 1) := by rw [hb]; exact d3
  have d4' : decode c.code (pc + 4) = .ok (.ldc_w is, 3) := by rw [hb]; exact d4
  have hstr' : vk_R own is text sa s' := vk_R.warm hW0 hstr
  obtain ⟨U, hsteps, hrun, hend, hW, hsame, ce, hce, hO⟩ := X₁.ctorThrowS hexec htr (own := own) (cls := cls) (names := names) (ic := ic) hown' hcls hnames h (fun x hx => nomatch hx) hfX hkX hcellA (by rw [hhp, hT]; exact Nat.le_refl _) (msg := .ref sa) rfl
    (g := { method := m, pc := pc + 7, locals := ls, stack := .ref sa :: .ref T.heap.size :: .ref T.heap.size :: rest, locked := none }) rfl hsize rfl rfl (rest := rest) rfl
    (by rw [hb]; exact d7) (by rw [hb]; exact d10) hout hRframes (by simp only [List.map_cons, List.sum_cons, hcat]; omega) hlocks
  obtain ⟨f1, f2⟩ := vx_frame hsame
  rw [hhp] at f1 f2
  have hWs : s.WarmedH U.vm := State.WarmedH.trans hW0 hW
  have hcl : s.vm.findClass cls = some ce.cls := by
    have h9 := hO.cls
    rw [hvm] at h9
    exact h9
  have hall : s.sameButNew ({ U with vm := s.vm } : State) locs mc ms := by
    subst hA
    obtain ⟨e1, e2⟩ := hsame
    rw [State.setFrames_setFrames] at e1
    have h2 : (T.setVm s.vm).sameButNew ({ U with vm := s.vm } : State) [] (0 + 1) (0 + 6) := ⟨e1, e2⟩
    have h3 := X.same.trans h2
    rw [List.append_nil] at h3
    exact h3.mono hc hs
  refine ⟨U, ?_, .threw T.heap.size, hrun, hend, Or.inr ⟨T.heap.size, rfl, cls, ce, locs, hx U hWs.alike f1 (fun q hq => f2 q hq (fun z hz => nomatch hz)), hce, hO.vm, hcl, hWs, hall, hf⟩⟩
  refine st1 _ ?_
  show Steps p.tables e below (T1.setTop { method := m, pc := pc + 3, locals := ls, stack := .ref T.heap.size :: rest, locked := none }) _
  jvm_step X₁.here [X₁.here.top, hexec, d3', Value.category]
  exact X₁.ldcStringW hexec (own := own) (text := text) (index := is) (a := sa) hown' hstr'.1 hstr'.2
    (g := { method := m, pc := pc + 4, locals := ls, stack := .ref T.heap.size :: .ref T.heap.size :: rest, locked := none }) rfl d4' _ hsteps
end Ends
section Bodies
variable {l : Launch}
theorem vx_ofW {y : MethodName} {ws ws' : List Cond} {rm : Room} {Pc : Array Value → State → Prop} {Qc : Array Value → State → Outcome → State → Prop} {XC : String → State → State → Prop} {mc ms : Nat} {free : Addr → Prop} {cc : ByteArray} {maxL : Nat} {ret : Option FieldType}
    (hy : plainName y.cls = true) (hw : ws = Cond.code y cc maxL ret :: ws')
    (body : ∀ p e s m args below meth c s₁, BodyLoose p l y (headSpec ws rm) cc maxL ret e s m args below meth c s₁ → c.maxLocals = maxL → (∀ x ∈ c.exceptionTable.toList, False) → Pc args s →
      W p l e (headSpec ws rm).room s m args below meth c s.heap [] 0 0 (vx_MQ below Qc XC args s mc ms free) (entryFrame m args maxL)) : vx_Met l y ws rm Pc Qc XC mc ms free := by
  refine MetFree.of_bodyS (code := cc) (maxLocals := maxL) (ret := ret) hy ?_ ?_
  · intro args s m h hn
    obtain ⟨meth, c, h1, h2, h3, h4, h5, h6, -, -⟩ := Cond.code_spec hn (atoms_spec (ws := ws) h _ (by rw [hw]; exact List.mem_cons_self))
    exact ⟨meth, c, h1, h2, h3, h4, h5, h6⟩
  · intro p e s m args below meth c s₁ B hml hP _
    have hh0 : s₁.heap = s.heap := by rw [B.state]; rfl
    have ht : ∀ x ∈ c.exceptionTable.toList, False := by
      obtain ⟨meth9, c9, h1, h2, -, -, -, -, h7, -⟩ := Cond.code_spec B.named (atoms_spec (ws := ws) B.pre _ (by rw [hw]; exact List.mem_cons_self))
      cases Option.some.inj (h1.symm.trans B.method)
      cases Option.some.inj (h2.symm.trans (Stand.of_body B).code)
      intro x hx
      rw [Array.isEmpty_iff.mp h7] at hx
      cases hx
    obtain ⟨t, a1, o, b1, b2, b3⟩ := body p e s m args below meth c s₁ B hml ht hP s₁ hh0 (Stand.of_body B)
    exact ⟨t, o, a1, b1, b2, b3⟩
/-- the table of a body with handlers -/
theorem vx_table {p : Program} {x y : MethodName} {S : Spec} {cc bytes : ByteArray} {maxL maxL' : Nat} {ret ret' : Option FieldType} {e : Env} {s s₁ : State} {m : MethodId} {args : Array Value} {below : List Frame} {meth : Method} {c : Code} {hh : List (Nat × Nat × Nat × Nat)}
    (B : BodyLoose p l y S cc maxL ret e s m args below meth c s₁) (h : (Cond.codeWith y bytes maxL' ret' hh).before args s = true) : c.exceptionTable.toList = tableOf hh := by
  obtain ⟨m9, meth9, c9, hn9, h1, h2, -, -, h6, -⟩ := Cond.codeWith_spec h
  cases Option.some.inj (hn9.symm.trans B.named)
  cases Option.some.inj (h1.symm.trans B.method)
  cases Option.some.inj (h2.symm.trans (Stand.of_body B).code)
  rw [← h6, table_eq]
end Bodies
end VXA
/-! ===== END ===== -/
/-! ===== BEGIN a static call of a method with an exception table ===== -/
section VXS
variable {p : Program} {l : Launch} {e : Env} {R : Room} {s : State} {m : MethodId} {args : Array Value} {below : List Frame} {meth : Method} {c : Code} {T : State} {H : Heap} {locs : List Loc} {cells slots : Nat}
abbrev vx_CSW (R : Room) (s : State) (args : Array Value) (own : String) (index : Nat) (y : MethodName) (bytes : ByteArray) (maxL : Nat) (ret : Option FieldType) (hh : List (Nat × Nat × Nat × Nat)) (ws : List Cond) (rm : Room) (mc ms n : Nat) : Prop :=
  (rm.cells = mc ∧ rm.slots = ms ∧ rm.frames + 1 ≤ R.frames ∧ 8 + (maxL + 11) + rm.locals ≤ R.locals ∧ (∀ w ∈ ws, ∀ (a' : Array Value) (U : State), s.WarmedH U.vm → w.before a' U = true) ∧ Cond.codeWith y bytes maxL ret hh ∈ ws) ∧
  (Cond.codeWith y bytes maxL ret hh).before args s = true ∧ (Cond.initialized y.cls).before args s = true ∧ (y.cls ≠ "java/lang/invoke/MethodHandle" ∧ y.cls ≠ "java/lang/invoke/VarHandle") ∧
  (∀ sig, parseMethodDescriptor y.desc = some sig → n = sig.parameters.length) ∧ (Cond.methodLink own index y).before args s = true ∧ (Cond.static y).before args s = true
theorem vx_cwSW {own : String} {index maxL mc ms : Nat} {y : MethodName} {bytes : ByteArray} {ret : Option FieldType} {hh : List (Nat × Nat × Nat × Nat)} {Ts ws ws' : List Cond} {rm : Room} (n : Nat) (ht : ∀ w ∈ Ts, w.before args s = true) (hT : GoodIn Ts (va_wsS own index y ws)) (hw : ws = Cond.codeWith y bytes maxL ret hh :: ws') (hrc : rm.cells = mc) (hrs : rm.slots = ms)
    (hd : y.cls ≠ "java/lang/invoke/MethodHandle" ∧ y.cls ≠ "java/lang/invoke/VarHandle" ∧ (parseMethodDescriptor y.desc).map (fun d => d.parameters.length) = some n) (hR : rm.frames + 1 ≤ R.frames ∧ 8 + (maxL + 11) + rm.locals ≤ R.locals) :
    vx_CSW R s args own index y bytes maxL ret hh ws rm mc ms n := by
  have ok : ∀ w ∈ va_wsS own index y ws, w.before args s = true := fun w h => ht w (hT w h).1
  have hG : GoodIn Ts ws := fun w h => hT w (by unfold va_wsS; exact List.mem_append_right _ h)
  have hc : Cond.codeWith y bytes maxL ret hh ∈ ws := by rw [hw]; exact List.mem_cons_self
  refine ⟨⟨hrc, hrs, hR.1, hR.2, pay_in ht hG, hc⟩, ht _ (hG _ hc).1, ok _ (by simp [va_wsS]), ⟨hd.1, hd.2.1⟩, fun sig h => ?_, ok _ (by simp [va_wsS]), ok _ (by simp [va_wsS])⟩
  have h2 := hd.2.2
  rw [h] at h2
  exact (Option.some.inj h2).symm
theorem vx_callSW (X : Stand p l e R s m args below meth c T locs cells slots) (hexec : p.tables.exec = Jvm.exec) {own : String} {index : Nat} {y : MethodName} {bytes : ByteArray} {maxL : Nat} {ret : Option FieldType} {hh : List (Nat × Nat × Nat × Nat)}
    (hown : s.vm.findClass own = some m.cls) (hlink : (Cond.methodLink own index y).before args s = true) (hstat : (Cond.static y).before args s = true) (hinit : (Cond.initialized y.cls).before args s = true)
    (hcode : (Cond.codeWith y bytes maxL ret hh).before args s = true) (hy : y.cls ≠ "java/lang/invoke/MethodHandle" ∧ y.cls ≠ "java/lang/invoke/VarHandle")
    {W9 : Nat} {Pre : Pt → Array Value → Prop} {Post : Pt → Array Value → Option Value → Pt → Prop} (hK : Back l R p e below s args y 3 W9 Pre Post)
    {g : JFrame} (hg : g.method = m) (hsize : g.locals.size = c.maxLocals) {argsL rest : List Value} (hlen : ∀ sig, parseMethodDescriptor y.desc = some sig → argsL.length = sig.parameters.length)
    (hstack : g.stack = argsL.reverse ++ rest) (hW : 2 * g.monitorRoom + (rest.map fun v => v.category).sum ≤ W9) (hdg : decode c.code g.pc = .ok (.invokestatic index, 3))
    (hpre : ∀ vm₁, s.WarmedH vm₁ → Pre ⟨T.setVm vm₁, locs, cells, slots⟩ argsL.toArray) :
    ∃ (v : Option Value) (vm₁ : Vm) (B : Pt), s.WarmedH vm₁ ∧ Stand p l e R s m args below meth c B.U B.locs B.cells B.slots ∧ Post ⟨T.setVm vm₁, locs, cells, slots⟩ argsL.toArray v B ∧
      ∀ target, Steps p.tables e below (B.U.setTop { g with pc := g.pc + 3, stack := v.toList ++ rest }) target → Steps p.tables e below (T.setTop g) target := by
  obtain ⟨mk, methM, cM, hnamed, hmethM, -, -, -, -, -, -, hsigM⟩ := Cond.codeWith_spec hcode
  have hstatic : methM.isStatic = true := Cond.static_spec hnamed hmethM hstat
  obtain ⟨kP, hkP, -⟩ := className_of_methodNamed hnamed
  have hinitP : kP.init = .initialized := Cond.initialized_spec (findClass_of_methodNamed hnamed) hkP hinit
  obtain ⟨vm₁, X₁, hstep₁⟩ := X.invokestatic hexec hown hlink hnamed hmethM hstatic hkP hinitP hy (g := g) hg (argsL := argsL) (rest := rest) (hlen _ hsigM) hstack hdg
  obtain ⟨v, B, X', hpost, hsteps⟩ := hK m meth c ⟨T.setVm vm₁, locs, cells, slots⟩ { g with stack := rest } (.invokestatic index) mk argsL.toArray X₁ hg hsize hdg hW (X₁.named hnamed) (hpre vm₁ X₁.warmed)
  exact ⟨v, vm₁, B, X₁.warmed, X', hpost, fun target h => hstep₁ _ fun acts => by rw [doInvoke_state]; exact hsteps.trans h⟩
theorem vx_runSW {y : MethodName} {bytes cc : ByteArray} {maxL nL mc ms n index : Nat} {ret : Option FieldType} {hh : List (Nat × Nat × Nat × Nat)} {ws : List Cond} {rm : Room} {Pc : Array Value → State → Prop} {Qc : Array Value → State → Outcome → State → Prop} {free : Addr → Prop} {Ts : List Cond} {own : String} {As rest : List Value} {g : JFrame}
    (S : CallFix p m c cc nL s args Ts own) (hM : Met l y ws rm Pc Qc mc ms free) (cw : vx_CSW R s args own index y bytes maxL ret hh ws rm mc ms n) (hp : PreS s H Pc As)
    (hg : g.method = m) (hn : As.length = n) (hsize : g.locals.size = nL) (hstack : g.stack = As.reverse ++ rest) (hW : 2 * g.monitorRoom + (rest.map fun v => v.category).sum ≤ 8) (hdg : decode cc g.pc = .ok (.invokestatic index, 3)) (hf : cells + mc ≤ R.cells ∧ slots + ms ≤ R.slots) :
    va_Run p l e R s m args below meth c H locs cells slots mc ms g rest (Qc As.toArray) (free) := by
  obtain ⟨⟨hrc, hrs, hfr, hlo, hws, hcw⟩, hcode, hini, hy, hlen, hl, hstt⟩ := cw
  have hK : Back l R p e below s args y 3 8 (PreOf R mc ms Pc) (PostOf Qc mc ms free) := va_backW (hh := hh) (bytes := bytes) (maxL := maxL) (ret := ret) hM hp.1 hrc hrs hfr hlo hws hcw (fun a' U hW => word_at hW (Or.inl (by first | rfl | simp [Cond.onTables, Cond.keeps, Cond.steady])) hini)
  obtain ⟨hx, hb, hml, ho, -⟩ := S
  intro T hT X
  obtain ⟨v, vm₁, ⟨U', l2, c2, s2⟩, hW₁, X', ⟨g', mk, t, L, e1, e2, hq, h1, hL, h2, h3⟩, st⟩ := vx_callSW X hx (hh := hh) (bytes := bytes) (maxL := maxL) (ret := ret) ho hl hstt hini hcode hy hK hg (hsize.trans hml.symm) (argsL := As) (rest := rest) (fun sig h => hn.trans (hlen sig h)) hstack hW (by rw [hb]; exact hdg)
    (fun vm₁ hW₁ => ⟨hf.1, hf.2, hp.2 (T.setVm vm₁) hT hW₁⟩)
  dsimp only [Pt.U, Pt.locs, Pt.cells, Pt.slots] at X' e1 e2 h1 h2 h3 st
  subst h1; subst h2; subst h3
  exact ⟨v, (T.setVm vm₁).calling g' mk As.toArray, t, U', L, hT, X', hL, e1, e2, hq, st⟩
/-- not caught here, past rows that name other classes: it goes on to the caller -/
theorem vx_outP {p : Program} {l : Launch} {e : Env} {R : Room} {s : State} {m : MethodId} {args : Array Value} {below : List Frame} {meth : Method} {c : Code} {H : Heap} {locs : List Loc} {cells slots : Nat} {free : Addr → Prop} {ls : Array Slot} {rest : List Value} {Qc : Array Value → State → Outcome → State → Prop} {XC : String → State → State → Prop}
    {pc : Nat} {own E : String} {ce : Cell} {q : Addr} {mc ms : Nat} (hown : s.vm.findClass own = some m.cls) (hlocks : meth.locks = false)
    (hpass : ∀ z ∈ c.exceptionTable.toList, covers z pc = false ∨ (z.catchType ≠ 0 ∧ ∃ nm : String, (Cond.classLink own z.catchType nm).before args s = true ∧ va_Nc E nm s)) (hcell : H[q]? = some ce) (hv : ce.vm = .none) (hcl : s.vm.findClass E = some ce.cls)
    (hx : ∀ t : State, t.heap = H → s.vm.Alike t.vm → XC E s t) (hf : ∀ z ∈ locs, free z.base) (hc : cells ≤ mc) (hs : slots ≤ ms) :
    vx_W p l e R s m args below meth c H locs cells slots (vx_MQ below Qc XC args s mc ms free) (F0 m pc ls rest) q := by
  intro T hT X
  have hpl : e.platform.magicAccessors = ({} : Platform).magicAccessors := by rw [X.admits.platform]
  obtain ⟨vm', hW', X', st⟩ := X.outThrough hlocks q (g := F0 m pc ls rest) rfl rfl rfl (cell := ce) (by rw [hT]; exact hcell) (by rw [hv]; rfl)
    (by obtain ⟨k9, h9, -⟩ := Vm.findClass_spec hcl; exact ⟨k9, h9⟩) (fun z hz => by
      rcases hpass z hz with h | ⟨hz0, nm, hl1, hn1⟩
      · exact Or.inl h
      · obtain ⟨c6, hc6, hcl6⟩ := Cond.classLink_spec hown hl1 e.platform hpl
        obtain ⟨a8, b8, h1, h2, h3⟩ := hn1
        cases Option.some.inj (h1.symm.trans hcl)
        cases Option.some.inj (h2.symm.trans hc6)
        exact Or.inr ⟨hz0, _, hcl6, h3⟩)
  obtain ⟨g₀, hfr⟩ := X'.frames_eq
  have hcell9 : ((T.setVm vm').setFrames (.throwing q :: below)).heap[q]? = some ce := by
    show T.heap[q]? = some ce
    rw [hT]; exact hcell
  have hend : Ended ((T.setVm vm').setFrames (.throwing q :: below)) below (.threw q) := State.frames_setFrames _ (State.cur_lt_of_frames hfr)
  refine ⟨(T.setVm vm').setFrames (.throwing q :: below), ?_, .threw q, X'.here.running, hend, Or.inr ⟨q, rfl, E, ce, locs, hx _ hT (X'.ends _).1.alike, hcell9, hv, hcl, (X'.ends _).1, (X'.ends _).2.mono hc hs, hf⟩⟩
  rw [X.pushThrowing_eq]
  exact st
/-- a thing of a world lies in the heap -/
theorem vx_lt {D : va_G} {cl : List vw_C} {ws : va_W} {H1 : Heap} (h : va_P D cl ws H1) {k : Nat} {q : Nat × va_E} (hk : ws[k]? = some q) : q.1 < H1.size := (h k q hk).lt
end VXS
/-! ===== END ===== -/
/-! ===== BEGIN methods with a table of their own: called by a name, returning or throwing ===== -/
section VXH
/-! vx_backW, vx_callVX, vx_callSX, vx_callVW, vx_runVW, vx_runVX, vx_runSX, vx_ofWH follow the same proofs as their sisters above (Free/Laws.lean, Shelf42/LK1.lean); vx_outP calls Shelf42/NT130.lean (outThrough). -/
section
variable {l : Launch} {R : Room} {p : Program} {e : Env} {below : List Frame} {s : State} {sargs : Array Value} {y : MethodName} {len W9 : Nat}
theorem vx_backW {ws : List Cond} {rm : Room} {Pc : Array Value → State → Prop} {Qc : Array Value → State → Outcome → State → Prop} {XC : String → State → State → Prop} {mc ms : Nat} {free : Addr → Prop} {bytes : ByteArray} {maxL : Nat} {ret : Option FieldType} {hh : List (Nat × Nat × Nat × Nat)}
    (hM : vx_Met l y ws rm Pc Qc XC mc ms free) (hblind : FrameBlind Pc) (hrc : rm.cells = mc) (hrs : rm.slots = ms)
    (hframes : rm.frames + 1 ≤ R.frames) (hlocals : W9 + (maxL + 11) + rm.locals ≤ R.locals)
    (hws : ∀ w ∈ ws, ∀ a' U, s.WarmedH U.vm → w.before a' U = true) (hcode : Cond.codeWith y bytes maxL ret hh ∈ ws) (hinit : ∀ a' U, s.WarmedH U.vm → (Cond.initialized y.cls).before a' U = true) :
    vx_Back l R p e below s sargs y len W9 (PreOf R mc ms Pc) (PostOf Qc mc ms free) (vx_Post XC mc ms free) := by
  intro m meth c A g ig mk a X hg hsize hdg hW hn hp
  have h1 : (headSpec ws rm).pre.before a A.U = true := atoms_intro fun w hw => hws w hw _ _ X.warmed
  have h2 : (Cond.codeWith y bytes maxL ret hh).before a A.U = true := hws _ hcode _ _ X.warmed
  have h3 : (Cond.initialized y.cls).before a A.U = true := hinit _ _ X.warmed
  have h4 : A.cells + (headSpec ws rm).room.cells ≤ R.cells := by rw [show (headSpec ws rm).room.cells = mc from hrc]; exact hp.1
  have h5 : A.slots + (headSpec ws rm).room.slots ≤ R.slots := by rw [show (headSpec ws rm).room.slots = ms from hrs]; exact hp.2.1
  have hPc : Pc a (A.U.calling g mk a) := hblind _ _ _ _ hp.2.2
  obtain ⟨U, Ls, c0, s0⟩ := A
  dsimp only [Pt.U, Pt.locs, Pt.cells, Pt.slots] at h1 h2 h3 h4 h5 X hn hPc ⊢
  obtain ⟨m9, methY, cY, hn9, hmY, hcY, -, hlY, -⟩ := Cond.codeWith_spec h2
  cases Option.some.inj (hn9.symm.trans hn)
  obtain ⟨kY, hkY, -⟩ := className_of_methodNamed hn
  have hinitY : kY.init = .initialized := Cond.initialized_spec (findClass_of_methodNamed hn) hkY h3
  have h : At U g.method c below := by rw [hg]; exact X.here
  have hlocals9 : W9 + (maxL + 11) + (headSpec ws rm).room.locals ≤ R.locals := hlocals
  have happ : (headSpec ws rm).appliesLoose y e.platform (U.calling g mk a) = true :=
    Spec.appliesLoose_calling (g := g) h hdg hn hkY hinitY
      (X.room_calling (g := g) (R' := (headSpec ws rm).room) hsize hmY hcY hframes (by rw [hlY]; omega) h4 h5) h1
  obtain ⟨mid, hmid⟩ := h.above
  have hfr : (U.setTop g).frames = (.java g :: mid) ++ below := by rw [State.frames_setTop' g h.top, hmid]; rfl
  obtain ⟨o, s₂, hsteps, -, hend, hq⟩ := Steps.callFree hM p X.admits X.cas X.clock (acts := []) hfr happ hPc trivial
  have hq' : vx_Q Qc XC mc ms free a (U.calling g mk a) o s₂ := hq
  rw [State.frames_setTop' g h.top] at hend
  obtain ⟨g₀, hg0⟩ := Option.isSome_iff_exists.mp h.top
  obtain ⟨r, hr⟩ := State.topJava?_eq_some.mp hg0
  have hr' : (({ U with heap := s₂.heap, slotsUsed := s₂.slotsUsed } : State).setVm s₂.vm).frames = .java g₀ :: r := hr
  rcases hq' with ⟨hqc, L, hfe, hL⟩ | ⟨q, rfl, E, ce, L, hx, hce, hcv, hcl, hW₂, hsm, hL⟩
  · obtain ⟨⟨v, rfl⟩, hW₂, e2, q2, q3, q4, q5, q6⟩ := id hfe
    have e3 : s₂ = ({ (U.calling g mk a).setFrames s₂.frames with heap := s₂.heap, slotsUsed := s₂.slotsUsed } : State).setVm s₂.vm := by
      have : s₂ = ({ s₂ with vm := (U.calling g mk a).vm } : State).setVm s₂.vm := rfl
      rw [e2] at this
      exact this
    obtain ⟨c₂, i₂, len₂, hc₂, hd₂, hf₂⟩ := hend
    have hW' : U.WarmedH s₂.vm := hW₂
    have hcc : c₂ = c := by
      have h1 : s₂.code? g.method = U.code? g.method := by
        rw [State.code?_eq, State.code?_eq, hW'.alike.method?]
      exact Option.some.inj (hc₂.symm.trans (h1.trans h.code))
    subst hcc
    have hlen : len₂ = len := by rw [hdg] at hd₂; cases hd₂; rfl
    subst hlen
    have hs₂ : s₂ = (({ U with heap := s₂.heap, slotsUsed := s₂.slotsUsed } : State).setVm s₂.vm).setTop { g with pc := g.pc + len₂, stack := v.toList ++ g.stack } := by
      refine e3.trans ?_
      rw [hf₂, State.calling_eq h.top, State.setFrames_setFrames, State.setTop_of_frames _ hr', hr]
      rfl
    have hsame : U.sameButNew ({ U with heap := s₂.heap, slotsUsed := s₂.slotsUsed } : State) L mc ms := by
      refine ⟨?_, q2, q3, q4, q5, q6⟩
      obtain ⟨t, ht, -⟩ := State.frames_cons hr
      show ({ U with heap := s₂.heap, slotsUsed := s₂.slotsUsed } : State) = { U.setFrames U.frames with heap := s₂.heap, slotsUsed := s₂.slotsUsed }
      rw [State.setFrames_self ht]
    subst hg
    refine Or.inl ⟨v, ⟨(({ U with heap := s₂.heap, slotsUsed := s₂.slotsUsed } : State).setVm s₂.vm), Ls ++ L, c0 + mc, s0 + ms⟩,
      ⟨X.admits, X.cas, X.clock, X.frames, X.room, X.hears, X.method, X.code, (X.here.setHeapUsed s₂.heap s₂.slotsUsed).setVm hW'.alike, X.tail, State.WarmedH.trans X.warmed hW', X.limits, X.bytes, X.same.trans (hsame.setVm s.vm)⟩,
      ⟨g, mk, s₂, L, rfl, rfl, hqc, rfl, hL, rfl, rfl⟩, ?_⟩
    show Steps p.tables e below _ ((({ U with heap := s₂.heap, slotsUsed := s₂.slotsUsed } : State).setVm s₂.vm).setTop { g with pc := g.pc + len₂, stack := v.toList ++ g.stack })
    rw [← hs₂]
    exact hsteps
  · obtain ⟨e2, q2, q3, q4, q5, q6⟩ := id hsm
    have e3 : s₂ = ({ (U.calling g mk a).setFrames s₂.frames with heap := s₂.heap, slotsUsed := s₂.slotsUsed } : State).setVm s₂.vm := by
      have : s₂ = ({ s₂ with vm := (U.calling g mk a).vm } : State).setVm s₂.vm := rfl
      rw [e2] at this
      exact this
    have hf₂ : s₂.frames = .throwing q :: .java g :: U.frames.tail := hend
    have hW' : U.WarmedH s₂.vm := hW₂
    have hs₂ : s₂ = ((({ U with heap := s₂.heap, slotsUsed := s₂.slotsUsed } : State).setVm s₂.vm).setTop g).pushFrame (.throwing q) := by
      refine e3.trans ?_
      rw [hf₂, State.calling_eq h.top, State.setFrames_setFrames, State.pushFrame, State.frames_setTop _ hr', State.setTop_of_frames _ hr', State.setFrames_setFrames, hr]
      rfl
    have hsame : U.sameButNew ({ U with heap := s₂.heap, slotsUsed := s₂.slotsUsed } : State) L mc ms := by
      refine ⟨?_, q2, q3, q4, q5, q6⟩
      obtain ⟨t, ht, -⟩ := State.frames_cons hr
      show ({ U with heap := s₂.heap, slotsUsed := s₂.slotsUsed } : State) = { U.setFrames U.frames with heap := s₂.heap, slotsUsed := s₂.slotsUsed }
      rw [State.setFrames_self ht]
    subst hg
    refine Or.inr ⟨q, ⟨(({ U with heap := s₂.heap, slotsUsed := s₂.slotsUsed } : State).setVm s₂.vm), Ls ++ L, c0 + mc, s0 + ms⟩,
      ⟨X.admits, X.cas, X.clock, X.frames, X.room, X.hears, X.method, X.code, (X.here.setHeapUsed s₂.heap s₂.slotsUsed).setVm hW'.alike, X.tail, State.WarmedH.trans X.warmed hW', X.limits, X.bytes, X.same.trans (hsame.setVm s.vm)⟩,
      ⟨g, mk, s₂, L, E, ce, rfl, rfl, hx, hce, hcv, hcl, rfl, hL, rfl, rfl⟩, ?_⟩
    show Steps p.tables e below _ (((({ U with heap := s₂.heap, slotsUsed := s₂.slotsUsed } : State).setVm s₂.vm).setTop g).pushFrame (.throwing q))
    rw [← hs₂]
    exact hsteps
end
variable {p : Program} {l : Launch} {e : Env} {R : Room} {s : State} {m : MethodId} {args : Array Value} {below : List Frame} {meth : Method} {c : Code} {T : State} {H : Heap} {locs : List Loc} {cells slots : Nat}
theorem vx_callVX (X : Stand p l e R s m args below meth c T locs cells slots) (hexec : p.tables.exec = Jvm.exec) {own C : String} {index : Nat} {y : MethodName} {bytes : ByteArray} {maxL : Nat} {ret : Option FieldType} {hh : List (Nat × Nat × Nat × Nat)}
    (hown : s.vm.findClass own = some m.cls) (hlink : (Cond.methodLink own index y).before args s = true) (hinst : (Cond.instanceMethod y).before args s = true) (hsel : (Cond.selects C y y).before args s = true)
    (hcode : (Cond.codeWith y bytes maxL ret hh).before args s = true) (hy : y.cls ≠ "java/lang/invoke/MethodHandle" ∧ y.cls ≠ "java/lang/invoke/VarHandle")
    {W9 : Nat} {Pre : Pt → Array Value → Prop} {Post : Pt → Array Value → Option Value → Pt → Prop} {PostX : Pt → Array Value → Addr → Pt → Prop} (hK : vx_Back l R p e below s args y 3 W9 Pre Post PostX)
    {b : Addr} {cellB : Cell} (hcell : T.heap[b]? = some cellB) (hobj : cellB.vm.isStatics = false) (hcls : s.vm.findClass C = some cellB.cls)
    {g : JFrame} (hg : g.method = m) (hsize : g.locals.size = c.maxLocals) {argsL rest : List Value} (hlen : ∀ sig, parseMethodDescriptor y.desc = some sig → argsL.length = sig.parameters.length)
    (hstack : g.stack = argsL.reverse ++ .ref b :: rest) (hW : 2 * g.monitorRoom + (rest.map fun v => v.category).sum ≤ W9) (hdg : decode c.code g.pc = .ok (.invokevirtual index, 3))
    (hpre : ∀ vm₁, s.WarmedH vm₁ → Pre ⟨T.setVm vm₁, locs, cells, slots⟩ (Value.ref b :: argsL).toArray) :
    (∃ (v : Option Value) (vm₁ : Vm) (B : Pt), s.WarmedH vm₁ ∧ Stand p l e R s m args below meth c B.U B.locs B.cells B.slots ∧ Post ⟨T.setVm vm₁, locs, cells, slots⟩ (Value.ref b :: argsL).toArray v B ∧
      ∀ target, Steps p.tables e below (B.U.setTop { g with pc := g.pc + 3, stack := v.toList ++ rest }) target → Steps p.tables e below (T.setTop g) target) ∨
    (∃ (q : Addr) (vm₁ : Vm) (B : Pt), s.WarmedH vm₁ ∧ Stand p l e R s m args below meth c B.U B.locs B.cells B.slots ∧ PostX ⟨T.setVm vm₁, locs, cells, slots⟩ (Value.ref b :: argsL).toArray q B ∧
      Steps p.tables e below (T.setTop g) ((B.U.setTop { g with stack := rest }).pushFrame (.throwing q))) := by
  obtain ⟨mk, methM, hnamed, hmethM, hstM, habM⟩ := Cond.instanceMethod_spec hinst
  obtain ⟨m8, methM', cM, hn8, hmethM', -, -, -, -, -, -, hsigM⟩ := Cond.codeWith_spec hcode
  cases Option.some.inj (hn8.symm.trans hnamed)
  cases hmethM.symm.trans hmethM'
  obtain ⟨c2, r2, m2, q1, q2, q3, q4, kP, hkP, hkPi⟩ := Cond.selects_spec hsel
  cases hcls.symm.trans q1
  cases (State.methodFound?_of_named hnamed hy).symm.trans q2
  cases hnamed.symm.trans q3
  have hselP : selectMethod e.platform s.vm cellB.cls mk = .method mk := by rw [Launch.admits_selectMethod X.admits]; exact q4
  obtain ⟨vm₁, X₁, hstep₁⟩ := X.invokevirtual hexec hown hlink hnamed hmethM hstM hkP hkPi hy (a := b) (cell := cellB) hcell
    (fun z h => by rw [h] at hobj; cases hobj) hselP hmethM habM hkP hkPi (g := g) hg (argsL := argsL) (rest := rest) (hlen _ hsigM) hstack hdg
  rcases hK m meth c ⟨T.setVm vm₁, locs, cells, slots⟩ { g with stack := rest } (.invokevirtual index) mk (Value.ref b :: argsL).toArray X₁ hg hsize hdg hW (X₁.named hnamed) (hpre vm₁ X₁.warmed) with ⟨v, B, X', hpost, hsteps⟩ | ⟨q, B, X', hpost, hsteps⟩
  · exact Or.inl ⟨v, vm₁, B, X₁.warmed, X', hpost, fun target h => hstep₁ _ fun acts => by rw [doInvoke_state]; exact hsteps.trans h⟩
  · exact Or.inr ⟨q, vm₁, B, X₁.warmed, X', hpost, hstep₁ _ fun acts => by rw [doInvoke_state]; exact hsteps⟩
theorem vx_callSX (X : Stand p l e R s m args below meth c T locs cells slots) (hexec : p.tables.exec = Jvm.exec) {own : String} {index : Nat} {y : MethodName} {bytes : ByteArray} {maxL : Nat} {ret : Option FieldType} {hh : List (Nat × Nat × Nat × Nat)}
    (hown : s.vm.findClass own = some m.cls) (hlink : (Cond.methodLink own index y).before args s = true) (hstat : (Cond.static y).before args s = true) (hinit : (Cond.initialized y.cls).before args s = true)
    (hcode : (Cond.codeWith y bytes maxL ret hh).before args s = true) (hy : y.cls ≠ "java/lang/invoke/MethodHandle" ∧ y.cls ≠ "java/lang/invoke/VarHandle")
    {W9 : Nat} {Pre : Pt → Array Value → Prop} {Post : Pt → Array Value → Option Value → Pt → Prop} {PostX : Pt → Array Value → Addr → Pt → Prop} (hK : vx_Back l R p e below s args y 3 W9 Pre Post PostX)
    {g : JFrame} (hg : g.method = m) (hsize : g.locals.size = c.maxLocals) {argsL rest : List Value} (hlen : ∀ sig, parseMethodDescriptor y.desc = some sig → argsL.length = sig.parameters.length)
    (hstack : g.stack = argsL.reverse ++ rest) (hW : 2 * g.monitorRoom + (rest.map fun v => v.category).sum ≤ W9) (hdg : decode c.code g.pc = .ok (.invokestatic index, 3))
    (hpre : ∀ vm₁, s.WarmedH vm₁ → Pre ⟨T.setVm vm₁, locs, cells, slots⟩ argsL.toArray) :
    (∃ (v : Option Value) (vm₁ : Vm) (B : Pt), s.WarmedH vm₁ ∧ Stand p l e R s m args below meth c B.U B.locs B.cells B.slots ∧ Post ⟨T.setVm vm₁, locs, cells, slots⟩ argsL.toArray v B ∧
      ∀ target, Steps p.tables e below (B.U.setTop { g with pc := g.pc + 3, stack := v.toList ++ rest }) target → Steps p.tables e below (T.setTop g) target) ∨
    (∃ (q : Addr) (vm₁ : Vm) (B : Pt), s.WarmedH vm₁ ∧ Stand p l e R s m args below meth c B.U B.locs B.cells B.slots ∧ PostX ⟨T.setVm vm₁, locs, cells, slots⟩ argsL.toArray q B ∧
      Steps p.tables e below (T.setTop g) ((B.U.setTop { g with stack := rest }).pushFrame (.throwing q))) := by
  obtain ⟨mk, methM, cM, hnamed, hmethM, -, -, -, -, -, -, hsigM⟩ := Cond.codeWith_spec hcode
  have hstatic : methM.isStatic = true := Cond.static_spec hnamed hmethM hstat
  obtain ⟨kP, hkP, -⟩ := className_of_methodNamed hnamed
  have hinitP : kP.init = .initialized := Cond.initialized_spec (findClass_of_methodNamed hnamed) hkP hinit
  obtain ⟨vm₁, X₁, hstep₁⟩ := X.invokestatic hexec hown hlink hnamed hmethM hstatic hkP hinitP hy (g := g) hg (argsL := argsL) (rest := rest) (hlen _ hsigM) hstack hdg
  rcases hK m meth c ⟨T.setVm vm₁, locs, cells, slots⟩ { g with stack := rest } (.invokestatic index) mk argsL.toArray X₁ hg hsize hdg hW (X₁.named hnamed) (hpre vm₁ X₁.warmed) with ⟨v, B, X', hpost, hsteps⟩ | ⟨q, B, X', hpost, hsteps⟩
  · exact Or.inl ⟨v, vm₁, B, X₁.warmed, X', hpost, fun target h => hstep₁ _ fun acts => by rw [doInvoke_state]; exact hsteps.trans h⟩
  · exact Or.inr ⟨q, vm₁, B, X₁.warmed, X', hpost, hstep₁ _ fun acts => by rw [doInvoke_state]; exact hsteps⟩
theorem vx_callVW (X : Stand p l e R s m args below meth c T locs cells slots) (hexec : p.tables.exec = Jvm.exec) {own C : String} {index : Nat} {y : MethodName} {bytes : ByteArray} {maxL : Nat} {ret : Option FieldType} {hh : List (Nat × Nat × Nat × Nat)}
    (hown : s.vm.findClass own = some m.cls) (hlink : (Cond.methodLink own index y).before args s = true) (hinst : (Cond.instanceMethod y).before args s = true) (hsel : (Cond.selects C y y).before args s = true)
    (hcode : (Cond.codeWith y bytes maxL ret hh).before args s = true) (hy : y.cls ≠ "java/lang/invoke/MethodHandle" ∧ y.cls ≠ "java/lang/invoke/VarHandle")
    {W9 : Nat} {Pre : Pt → Array Value → Prop} {Post : Pt → Array Value → Option Value → Pt → Prop} (hK : Back l R p e below s args y 3 W9 Pre Post)
    {b : Addr} {cellB : Cell} (hcell : T.heap[b]? = some cellB) (hobj : cellB.vm.isStatics = false) (hcls : s.vm.findClass C = some cellB.cls)
    {g : JFrame} (hg : g.method = m) (hsize : g.locals.size = c.maxLocals) {argsL rest : List Value} (hlen : ∀ sig, parseMethodDescriptor y.desc = some sig → argsL.length = sig.parameters.length)
    (hstack : g.stack = argsL.reverse ++ .ref b :: rest) (hW : 2 * g.monitorRoom + (rest.map fun v => v.category).sum ≤ W9) (hdg : decode c.code g.pc = .ok (.invokevirtual index, 3))
    (hpre : ∀ vm₁, s.WarmedH vm₁ → Pre ⟨T.setVm vm₁, locs, cells, slots⟩ (Value.ref b :: argsL).toArray) :
    ∃ (v : Option Value) (vm₁ : Vm) (B : Pt), s.WarmedH vm₁ ∧ Stand p l e R s m args below meth c B.U B.locs B.cells B.slots ∧ Post ⟨T.setVm vm₁, locs, cells, slots⟩ (Value.ref b :: argsL).toArray v B ∧
      ∀ target, Steps p.tables e below (B.U.setTop { g with pc := g.pc + 3, stack := v.toList ++ rest }) target → Steps p.tables e below (T.setTop g) target := by
  obtain ⟨mk, methM, hnamed, hmethM, hstM, habM⟩ := Cond.instanceMethod_spec hinst
  obtain ⟨m8, methM', cM, hn8, hmethM', -, -, -, -, -, -, hsigM⟩ := Cond.codeWith_spec hcode
  cases Option.some.inj (hn8.symm.trans hnamed)
  cases hmethM.symm.trans hmethM'
  obtain ⟨c2, r2, m2, q1, q2, q3, q4, kP, hkP, hkPi⟩ := Cond.selects_spec hsel
  cases hcls.symm.trans q1
  cases (State.methodFound?_of_named hnamed hy).symm.trans q2
  cases hnamed.symm.trans q3
  have hselP : selectMethod e.platform s.vm cellB.cls mk = .method mk := by rw [Launch.admits_selectMethod X.admits]; exact q4
  obtain ⟨vm₁, X₁, hstep₁⟩ := X.invokevirtual hexec hown hlink hnamed hmethM hstM hkP hkPi hy (a := b) (cell := cellB) hcell
    (fun z h => by rw [h] at hobj; cases hobj) hselP hmethM habM hkP hkPi (g := g) hg (argsL := argsL) (rest := rest) (hlen _ hsigM) hstack hdg
  obtain ⟨v, B, X', hpost, hsteps⟩ := hK m meth c ⟨T.setVm vm₁, locs, cells, slots⟩ { g with stack := rest } (.invokevirtual index) mk (Value.ref b :: argsL).toArray X₁ hg hsize hdg hW (X₁.named hnamed) (hpre vm₁ X₁.warmed)
  exact ⟨v, vm₁, B, X₁.warmed, X', hpost, fun target h => hstep₁ _ fun acts => by rw [doInvoke_state]; exact hsteps.trans h⟩
abbrev vx_CVW (R : Room) (s : State) (args : Array Value) (own C : String) (index : Nat) (y : MethodName) (bytes : ByteArray) (maxL : Nat) (ret : Option FieldType) (hh : List (Nat × Nat × Nat × Nat)) (ws : List Cond) (rm : Room) (mc ms n : Nat) : Prop :=
  (rm.cells = mc ∧ rm.slots = ms ∧ rm.frames + 1 ≤ R.frames ∧ 8 + (maxL + 11) + rm.locals ≤ R.locals ∧ (∀ w ∈ ws, ∀ (a' : Array Value) (U : State), s.WarmedH U.vm → w.before a' U = true) ∧ Cond.codeWith y bytes maxL ret hh ∈ ws) ∧
  (Cond.codeWith y bytes maxL ret hh).before args s = true ∧ (Cond.initialized y.cls).before args s = true ∧ (y.cls ≠ "java/lang/invoke/MethodHandle" ∧ y.cls ≠ "java/lang/invoke/VarHandle") ∧
  (∀ sig, parseMethodDescriptor y.desc = some sig → n = sig.parameters.length) ∧ (Cond.methodLink own index y).before args s = true ∧ (Cond.instanceMethod y).before args s = true ∧ (Cond.selects C y y).before args s = true
theorem vx_cwVW {own C : String} {index maxL mc ms : Nat} {y : MethodName} {bytes : ByteArray} {ret : Option FieldType} {hh : List (Nat × Nat × Nat × Nat)} {Ts ws ws' : List Cond} {rm : Room} (n : Nat) (ht : ∀ w ∈ Ts, w.before args s = true) (hT : GoodIn Ts (wsV own index C y ws)) (hw : ws = Cond.codeWith y bytes maxL ret hh :: ws') (hrc : rm.cells = mc) (hrs : rm.slots = ms)
    (hd : y.cls = C ∧ y.cls ≠ "java/lang/invoke/MethodHandle" ∧ y.cls ≠ "java/lang/invoke/VarHandle" ∧ (parseMethodDescriptor y.desc).map (fun d => d.parameters.length) = some n) (hR : rm.frames + 1 ≤ R.frames ∧ 8 + (maxL + 11) + rm.locals ≤ R.locals) :
    vx_CVW R s args own C index y bytes maxL ret hh ws rm mc ms n := by
  obtain ⟨hC, hd⟩ := hd
  subst hC
  have ok : ∀ w ∈ wsV own index y.cls y ws, w.before args s = true := fun w h => ht w (hT w h).1
  have hG : GoodIn Ts ws := fun w h => hT w (by unfold wsV; exact List.mem_append_right _ h)
  have hc : Cond.codeWith y bytes maxL ret hh ∈ ws := by rw [hw]; exact List.mem_cons_self
  refine ⟨⟨hrc, hrs, hR.1, hR.2, pay_in ht hG, hc⟩, ht _ (hG _ hc).1, ok _ (by simp [wsV]), ⟨hd.1, hd.2.1⟩, fun sig h => ?_, ok _ (by simp [wsV]), ok _ (by simp [wsV]), ok _ (by simp [wsV])⟩
  have h2 := hd.2.2
  rw [h] at h2
  exact (Option.some.inj h2).symm
theorem vx_runVW {y : MethodName} {bytes cc : ByteArray} {maxL nL mc ms n index : Nat} {ret : Option FieldType} {hh : List (Nat × Nat × Nat × Nat)} {ws : List Cond} {rm : Room} {Pc : Array Value → State → Prop} {Qc : Array Value → State → Outcome → State → Prop} {free : Addr → Prop} {Ts : List Cond} {own C : String} {b : Addr} {As rest : List Value} {g : JFrame}
    (S : CallFix p m c cc nL s args Ts own) (hM : Met l y ws rm Pc Qc mc ms free) (cw : vx_CVW R s args own C index y bytes maxL ret hh ws rm mc ms n) (hp : PreV s H C b Pc As)
    (hg : g.method = m) (hn : As.length = n) (hsize : g.locals.size = nL) (hstack : g.stack = As.reverse ++ .ref b :: rest) (hW : 2 * g.monitorRoom + (rest.map fun v => v.category).sum ≤ 8) (hdg : decode cc g.pc = .ok (.invokevirtual index, 3)) (hf : cells + mc ≤ R.cells ∧ slots + ms ≤ R.slots) :
    va_Run p l e R s m args below meth c H locs cells slots mc ms g rest (Qc (Value.ref b :: As).toArray) free := by
  obtain ⟨⟨hrc, hrs, hfr, hlo, hws, hcw⟩, hcode, hini, hy, hlen, hl, hin, hse⟩ := cw
  have hK : Back l R p e below s args y 3 8 (PreOf R mc ms Pc) (PostOf Qc mc ms free) := va_backW (hh := hh) (bytes := bytes) (maxL := maxL) (ret := ret) hM hp.1 hrc hrs hfr hlo hws hcw (fun a' U hW => word_at hW (Or.inl (by first | rfl | simp [Cond.onTables, Cond.keeps, Cond.steady])) hini)
  obtain ⟨hx, hb, hml, ho, -⟩ := S
  obtain ⟨-, ⟨cellB, hcB, hoB, hclB⟩, hPc⟩ := hp
  intro T hT X
  obtain ⟨v, vm₁, ⟨U', l2, c2, s2⟩, hW₁, X', ⟨g', mk, t, L, e1, e2, hq, h1, hL, h2, h3⟩, st⟩ := vx_callVW X hx (C := C) (hh := hh) (bytes := bytes) (maxL := maxL) (ret := ret) ho hl hin hse hcode hy hK (by rw [hT]; exact hcB) hoB hclB hg (hsize.trans hml.symm) (argsL := As) (rest := rest) (fun sig h => hn.trans (hlen sig h)) hstack hW (by rw [hb]; exact hdg)
    (fun vm₁ hW₁ => ⟨hf.1, hf.2, hPc (T.setVm vm₁) hT hW₁⟩)
  dsimp only [Pt.U, Pt.locs, Pt.cells, Pt.slots] at X' e1 e2 h1 h2 h3 st
  subst h1; subst h2; subst h3
  exact ⟨v, (T.setVm vm₁).calling g' mk (Value.ref b :: As).toArray, t, U', L, hT, X', hL, e1, e2, hq, st⟩
section
variable {y : MethodName} {bytes cc : ByteArray} {maxL nL mc ms n index : Nat} {ret : Option FieldType} {ws : List Cond} {rm : Room} {Pc : Array Value → State → Prop} {Qc : Array Value → State → Outcome → State → Prop} {XC : String → State → State → Prop} {free : Addr → Prop} {Ts : List Cond} {own C : String} {b : Addr} {As rest : List Value} {g : JFrame}
theorem vx_runVX {hh : List (Nat × Nat × Nat × Nat)} (S : CallFix p m c cc nL s args Ts own) (hM : vx_Met l y ws rm Pc Qc XC mc ms free) (cw : vx_CVW R s args own C index y bytes maxL ret hh ws rm mc ms n) (hp : PreV s H C b Pc As)
    (hg : g.method = m) (hn : As.length = n) (hsize : g.locals.size = nL) (hstack : g.stack = As.reverse ++ .ref b :: rest) (hW : 2 * g.monitorRoom + (rest.map fun v => v.category).sum ≤ 8) (hdg : decode cc g.pc = .ok (.invokevirtual index, 3)) (hf : cells + mc ≤ R.cells ∧ slots + ms ≤ R.slots) :
    vx_Run p l e R s m args below meth c H locs cells slots mc ms g rest (Qc (Value.ref b :: As).toArray) XC free := by
  obtain ⟨⟨hrc, hrs, hfr, hlo, hws, hcw⟩, hcode, hini, hy, hlen, hl, hin, hse⟩ := cw
  have hK : vx_Back l R p e below s args y 3 8 (PreOf R mc ms Pc) (PostOf Qc mc ms free) (vx_Post XC mc ms free) := vx_backW (hh := hh) (bytes := bytes) (maxL := maxL) (ret := ret) hM hp.1 hrc hrs hfr hlo hws hcw (fun a' U hW => word_at hW (Or.inl (by first | rfl | simp [Cond.onTables, Cond.keeps, Cond.steady])) hini)
  obtain ⟨hx, hb, hml, ho, -⟩ := S
  obtain ⟨-, ⟨cellB, hcB, hoB, hclB⟩, hPc⟩ := hp
  intro T hT X
  rcases vx_callVX X hx (C := C) (hh := hh) (bytes := bytes) (maxL := maxL) (ret := ret) ho hl hin hse hcode hy hK (by rw [hT]; exact hcB) hoB hclB hg (hsize.trans hml.symm) (argsL := As) (rest := rest) (fun sig h => hn.trans (hlen sig h)) hstack hW (by rw [hb]; exact hdg)
    (fun vm₁ hW₁ => ⟨hf.1, hf.2, hPc (T.setVm vm₁) hT hW₁⟩) with ⟨v, vm₁, ⟨U', l2, c2, s2⟩, hW₁, X', ⟨g', mk, t, L, e1, e2, hq, h1, hL, h2, h3⟩, st⟩ | ⟨q, vm₁, ⟨U', l2, c2, s2⟩, hW₁, X', ⟨g', mk, t, L, E, ce, e1, e2, hq, hce, hcv, hcl, h1, hL, h2, h3⟩, st⟩
  · dsimp only [Pt.U, Pt.locs, Pt.cells, Pt.slots] at X' e1 e2 h1 h2 h3 st
    subst h1; subst h2; subst h3
    exact Or.inl ⟨v, (T.setVm vm₁).calling g' mk (Value.ref b :: As).toArray, t, U', L, hT, X', hL, e1, e2, hq, st⟩
  · dsimp only [Pt.U, Pt.locs, Pt.cells, Pt.slots] at X' e1 e2 h1 h2 h3 st hcl
    subst h1; subst h2; subst h3
    exact Or.inr ⟨q, (T.setVm vm₁).calling g' mk (Value.ref b :: As).toArray, t, U', L, E, ce, hT, X', hL, e1, e2, hq, hce, hcv, vx_cls hW₁ hcl, st⟩
theorem vx_runSX {hh : List (Nat × Nat × Nat × Nat)} (S : CallFix p m c cc nL s args Ts own) (hM : vx_Met l y ws rm Pc Qc XC mc ms free) (cw : vx_CSW R s args own index y bytes maxL ret hh ws rm mc ms n) (hp : PreS s H Pc As)
    (hg : g.method = m) (hn : As.length = n) (hsize : g.locals.size = nL) (hstack : g.stack = As.reverse ++ rest) (hW : 2 * g.monitorRoom + (rest.map fun v => v.category).sum ≤ 8) (hdg : decode cc g.pc = .ok (.invokestatic index, 3)) (hf : cells + mc ≤ R.cells ∧ slots + ms ≤ R.slots) :
    vx_Run p l e R s m args below meth c H locs cells slots mc ms g rest (Qc As.toArray) XC free := by
  obtain ⟨⟨hrc, hrs, hfr, hlo, hws, hcw⟩, hcode, hini, hy, hlen, hl, hstt⟩ := cw
  have hK : vx_Back l R p e below s args y 3 8 (PreOf R mc ms Pc) (PostOf Qc mc ms free) (vx_Post XC mc ms free) := vx_backW (hh := hh) (bytes := bytes) (maxL := maxL) (ret := ret) hM hp.1 hrc hrs hfr hlo hws hcw (fun a' U hW => word_at hW (Or.inl (by first | rfl | simp [Cond.onTables, Cond.keeps, Cond.steady])) hini)
  obtain ⟨hx, hb, hml, ho, -⟩ := S
  intro T hT X
  rcases vx_callSX X hx (hh := hh) (bytes := bytes) (maxL := maxL) (ret := ret) ho hl hstt hini hcode hy hK hg (hsize.trans hml.symm) (argsL := As) (rest := rest) (fun sig h => hn.trans (hlen sig h)) hstack hW (by rw [hb]; exact hdg)
    (fun vm₁ hW₁ => ⟨hf.1, hf.2, hp.2 (T.setVm vm₁) hT hW₁⟩) with ⟨v, vm₁, ⟨U', l2, c2, s2⟩, hW₁, X', ⟨g', mk, t, L, e1, e2, hq, h1, hL, h2, h3⟩, st⟩ | ⟨q, vm₁, ⟨U', l2, c2, s2⟩, hW₁, X', ⟨g', mk, t, L, E, ce, e1, e2, hq, hce, hcv, hcl, h1, hL, h2, h3⟩, st⟩
  · dsimp only [Pt.U, Pt.locs, Pt.cells, Pt.slots] at X' e1 e2 h1 h2 h3 st
    subst h1; subst h2; subst h3
    exact Or.inl ⟨v, (T.setVm vm₁).calling g' mk As.toArray, t, U', L, hT, X', hL, e1, e2, hq, st⟩
  · dsimp only [Pt.U, Pt.locs, Pt.cells, Pt.slots] at X' e1 e2 h1 h2 h3 st hcl
    subst h1; subst h2; subst h3
    exact Or.inr ⟨q, (T.setVm vm₁).calling g' mk As.toArray, t, U', L, E, ce, hT, X', hL, e1, e2, hq, hce, hcv, vx_cls hW₁ hcl, st⟩
end
end VXH
theorem vx_ofWH {l : Launch} {y : MethodName} {ws ws' : List Cond} {rm : Room} {Pc : Array Value → State → Prop} {Qc : Array Value → State → Outcome → State → Prop} {XC : String → State → State → Prop} {mc ms : Nat} {free : Addr → Prop} {cc : ByteArray} {maxL : Nat} {ret : Option FieldType} {hh : List (Nat × Nat × Nat × Nat)}
    (hy : plainName y.cls = true) (hw : ws = Cond.codeWith y cc maxL ret hh :: ws')
    (body : ∀ p e s m args below meth c s₁, BodyLoose p l y (headSpec ws rm) cc maxL ret e s m args below meth c s₁ → c.maxLocals = maxL → Pc args s →
      W p l e (headSpec ws rm).room s m args below meth c s.heap [] 0 0 (vx_MQ below Qc XC args s mc ms free) (entryFrame m args maxL)) : vx_Met l y ws rm Pc Qc XC mc ms free := by
  refine MetFree.of_bodyS (code := cc) (maxLocals := maxL) (ret := ret) hy ?_ ?_
  · intro args s m h hn
    obtain ⟨m9, meth, c, hn9, h1, h2, h3, h4, -, h5, h6, -⟩ := Cond.codeWith_spec (atoms_spec (ws := ws) h _ (by rw [hw]; exact List.mem_cons_self))
    cases hn.symm.trans hn9
    exact ⟨meth, c, h1, h2, h3, h4, h5, h6⟩
  · intro p e s m args below meth c s₁ B hml hP _
    have hh0 : s₁.heap = s.heap := by rw [B.state]; rfl
    obtain ⟨t, a1, o, b1, b2, b3⟩ := body p e s m args below meth c s₁ B hml hP s₁ hh0 (Stand.of_body B)
    exact ⟨t, o, a1, b1, b2, b3⟩
/-! ===== END ===== -/
end
section
/-! ===== BEGIN printed: names, fields, word lists, decode rows ===== -/
def RX0 : String := "PlateauBench$Films"
def TX0 : u_T := fun k => match k with
  | 0 => ("PlateauBench$Films", "pinned", "[I", true)
  | 1 => ("PlateauBench$Films", "flow", "[I", true)
  | 2 => ("PlateauBench$Films", "cameBy", "[I", true)
  | _ => ("PlateauBench$Films", "queue", "[I", true)
def tyX0 : Nat → FieldType := fun k => match k with
  | 0 => .array .int
  | 1 => .array .int
  | 2 => .array .int
  | _ => .array .int
abbrev wsX00 : List Cond := u_ws RX0 TX0 4
theorem nmX0 : ∀ a, a < 4 → ∀ b, b < 4 → a ≠ b → (TX0 a).2.1 ≠ (TX0 b).2.1 := by decide +kernel
theorem tyX0_ok : ∀ k, k < 4 → parseFieldDescriptor (TX0 k).2.2.1 = some (tyX0 k) := by decide +kernel
abbrev cX0_init : ByteArray := prog_2_method_1_code
def yX0_init : MethodName := ⟨RX0, "<init>", "()V"⟩
abbrev cX0_change : ByteArray := prog_2_method_2_code
def yX0_change : MethodName := ⟨RX0, "change", "(II)I"⟩
abbrev cX0_isFilm : ByteArray := prog_2_method_3_code
def yX0_isFilm : MethodName := ⟨RX0, "isFilm", "(J)Z"⟩
abbrev cX0_priceOf : ByteArray := prog_2_method_4_code
def yX0_priceOf : MethodName := ⟨RX0, "priceOf", "(LPlateauBench$Grid;J)I"⟩
abbrev cX0_smallest : ByteArray := prog_2_method_5_code
def yX0_smallest : MethodName := ⟨RX0, "smallest", "(LPlateauBench$Grid;)J"⟩
abbrev cX0_greatest : ByteArray := prog_2_method_6_code
def yX0_greatest : MethodName := ⟨RX0, "greatest", "(LPlateauBench$Grid;)J"⟩
abbrev cX0_proved : ByteArray := prog_2_method_7_code
def yX0_proved : MethodName := ⟨RX0, "proved", "(LPlateauBench$Grid;)I"⟩
abbrev cX0_has : ByteArray := prog_2_method_8_code
def yX0_has : MethodName := ⟨RX0, "has", "(JI)Z"⟩
abbrev cX0_reached : ByteArray := prog_2_method_9_code
def yX0_reached : MethodName := ⟨RX0, "reached", "()J"⟩
abbrev cX0_fillField : ByteArray := prog_2_method_10_code
def yX0_fillField : MethodName := ⟨RX0, "fillField", "(LPlateauBench$Grid;)V"⟩
abbrev cX0_search : ByteArray := prog_2_method_11_code
def yX0_search : MethodName := ⟨RX0, "search", "(LPlateauBench$Grid;I)I"⟩
abbrev cX0_searchBeside : ByteArray := prog_2_method_12_code
def yX0_searchBeside : MethodName := ⟨RX0, "searchBeside", "(LPlateauBench$Grid;III)I"⟩
abbrev cX0_leftFrom : ByteArray := prog_2_method_13_code
def yX0_leftFrom : MethodName := ⟨RX0, "leftFrom", "(LPlateauBench$Grid;II)I"⟩
abbrev cX0_nearestOutside : ByteArray := prog_2_method_14_code
def yX0_nearestOutside : MethodName := ⟨RX0, "nearestOutside", "(I)I"⟩
abbrev cX0_mostAlong : ByteArray := prog_2_method_15_code
def yX0_mostAlong : MethodName := ⟨RX0, "mostAlong", "(LPlateauBench$Grid;I)I"⟩
abbrev cX0_push : ByteArray := prog_2_method_16_code
def yX0_push : MethodName := ⟨RX0, "push", "(LPlateauBench$Grid;II)V"⟩
def RX1 : String := "PlateauBench$Foam"
def TX1 : u_T := fun k => match k with
  | 0 => ("PlateauBench$Foam", "owners", "[I", true)
  | 1 => ("PlateauBench$Foam", "ahead", "[I", true)
  | 2 => ("PlateauBench$Foam", "held", "[Z", true)
  | 3 => ("PlateauBench$Foam", "seen", "[Z", true)
  | 4 => ("PlateauBench$Foam", "queue", "[I", true)
  | 5 => ("PlateauBench$Foam", "work", "I", false)
  | _ => ("PlateauBench$Foam", "lost", "I", false)
def tyX1 : Nat → FieldType := fun k => match k with
  | 0 => .array .int
  | 1 => .array .int
  | 2 => .array .boolean
  | 3 => .array .boolean
  | 4 => .array .int
  | 5 => .int
  | _ => .int
abbrev wsX10 : List Cond := u_ws RX1 TX1 7
theorem nmX1 : ∀ a, a < 7 → ∀ b, b < 7 → a ≠ b → (TX1 a).2.1 ≠ (TX1 b).2.1 := by decide +kernel
theorem tyX1_ok : ∀ k, k < 7 → parseFieldDescriptor (TX1 k).2.2.1 = some (tyX1 k) := by decide +kernel
abbrev cX1_init : ByteArray := prog_3_method_1_code
def yX1_init : MethodName := ⟨RX1, "<init>", "()V"⟩
abbrev cX1_ownerOf : ByteArray := prog_3_method_2_code
def yX1_ownerOf : MethodName := ⟨RX1, "ownerOf", "(I)I"⟩
abbrev cX1_isHeld : ByteArray := prog_3_method_3_code
def yX1_isHeld : MethodName := ⟨RX1, "isHeld", "(I)Z"⟩
abbrev cX1_workDone : ByteArray := prog_3_method_4_code
def yX1_workDone : MethodName := ⟨RX1, "workDone", "()I"⟩
abbrev cX1_energyLost : ByteArray := prog_3_method_5_code
def yX1_energyLost : MethodName := ⟨RX1, "energyLost", "()I"⟩
abbrev cX1_addWork : ByteArray := prog_3_method_6_code
def yX1_addWork : MethodName := ⟨RX1, "addWork", "(I)V"⟩
abbrev cX1_energyNow : ByteArray := prog_3_method_7_code
def yX1_energyNow : MethodName := ⟨RX1, "energyNow", "(LPlateauBench$Grid;)I"⟩
abbrev cX1_energyOf : ByteArray := prog_3_method_8_code
def yX1_energyOf : MethodName := ⟨RX1, "energyOf", "(LPlateauBench$Grid;[I)I"⟩
abbrev cX1_change : ByteArray := prog_3_method_9_code
def yX1_change : MethodName := ⟨RX1, "change", "(LPlateauBench$Grid;II)I"⟩
abbrev cX1_changeHeld : ByteArray := prog_3_method_10_code
def yX1_changeHeld : MethodName := ⟨RX1, "changeHeld", "(IZ)Z"⟩
abbrev cX1_letBreathe : ByteArray := prog_3_method_11_code
def yX1_letBreathe : MethodName := ⟨RX1, "letBreathe", "(LPlateauBench$Grid;I)I"⟩
abbrev cX1_breathsToRest : ByteArray := prog_3_method_12_code
def yX1_breathsToRest : MethodName := ⟨RX1, "breathsToRest", "(LPlateauBench$Grid;)I"⟩
abbrev cX1_energyAtRest : ByteArray := prog_3_method_13_code
def yX1_energyAtRest : MethodName := ⟨RX1, "energyAtRest", "(LPlateauBench$Grid;)I"⟩
abbrev cX1_breath : ByteArray := prog_3_method_14_code
def yX1_breath : MethodName := ⟨RX1, "breath", "(LPlateauBench$Grid;[I)I"⟩
abbrev cX1_bestOwner : ByteArray := prog_3_method_15_code
def yX1_bestOwner : MethodName := ⟨RX1, "bestOwner", "(LPlateauBench$Grid;[II)I"⟩
abbrev cX1_wallsWith : ByteArray := prog_3_method_16_code
def yX1_wallsWith : MethodName := ⟨RX1, "wallsWith", "(LPlateauBench$Grid;[III)I"⟩
abbrev cX1_size : ByteArray := prog_3_method_17_code
def yX1_size : MethodName := ⟨RX1, "size", "(I)I"⟩
abbrev cX1_pieces : ByteArray := prog_3_method_18_code
def yX1_pieces : MethodName := ⟨RX1, "pieces", "(LPlateauBench$Grid;I)I"⟩
abbrev cX1_seePiece : ByteArray := prog_3_method_19_code
def yX1_seePiece : MethodName := ⟨RX1, "seePiece", "(LPlateauBench$Grid;I)V"⟩
abbrev cX1_wallsAround : ByteArray := prog_3_method_20_code
def yX1_wallsAround : MethodName := ⟨RX1, "wallsAround", "(LPlateauBench$Grid;I)I"⟩
abbrev cX1_wallsBetween : ByteArray := prog_3_method_21_code
def yX1_wallsBetween : MethodName := ⟨RX1, "wallsBetween", "(LPlateauBench$Grid;II)I"⟩
abbrev cX1_isBetween : ByteArray := prog_3_method_22_code
def yX1_isBetween : MethodName := ⟨RX1, "isBetween", "(LPlateauBench$Grid;III)Z"⟩
abbrev cX1_neighbours : ByteArray := prog_3_method_23_code
def yX1_neighbours : MethodName := ⟨RX1, "neighbours", "(LPlateauBench$Grid;I)I"⟩
abbrev cX1_cornersOf : ByteArray := prog_3_method_24_code
def yX1_cornersOf : MethodName := ⟨RX1, "cornersOf", "(I)I"⟩
abbrev cX1_kindsAt : ByteArray := prog_3_method_25_code
def yX1_kindsAt : MethodName := ⟨RX1, "kindsAt", "(I)I"⟩
def RX2 : String := "PlateauBench$Grid"
def TX2 : u_T := fun k => match k with
  | 0 => ("PlateauBench$Grid", "low", "[I", true)
  | 1 => ("PlateauBench$Grid", "high", "[I", true)
  | 2 => ("PlateauBench$Grid", "beside", "[I", true)
  | 3 => ("PlateauBench$Grid", "laid", "[I", true)
  | 4 => ("PlateauBench$Grid", "prices", "[I", true)
  | 5 => ("PlateauBench$Grid", "across", "I", false)
  | _ => ("PlateauBench$Grid", "down", "I", false)
def tyX2 : Nat → FieldType := fun k => match k with
  | 0 => .array .int
  | 1 => .array .int
  | 2 => .array .int
  | 3 => .array .int
  | 4 => .array .int
  | 5 => .int
  | _ => .int
abbrev wsX20 : List Cond := u_ws RX2 TX2 7
theorem nmX2 : ∀ a, a < 7 → ∀ b, b < 7 → a ≠ b → (TX2 a).2.1 ≠ (TX2 b).2.1 := by decide +kernel
theorem tyX2_ok : ∀ k, k < 7 → parseFieldDescriptor (TX2 k).2.2.1 = some (tyX2 k) := by decide +kernel
abbrev cX2_init : ByteArray := prog_4_method_1_code
def yX2_init : MethodName := ⟨RX2, "<init>", "()V"⟩
abbrev cX2_price : ByteArray := prog_4_method_2_code
def yX2_price : MethodName := ⟨RX2, "price", "(I)I"⟩
abbrev cX2_changeDirection : ByteArray := prog_4_method_3_code
def yX2_changeDirection : MethodName := ⟨RX2, "changeDirection", "(II)I"⟩
abbrev cX2_changeLaid : ByteArray := prog_4_method_4_code
def yX2_changeLaid : MethodName := ⟨RX2, "changeLaid", "(II)I"⟩
abbrev cX2_low : ByteArray := prog_4_method_5_code
def yX2_low : MethodName := ⟨RX2, "low", "(I)I"⟩
abbrev cX2_high : ByteArray := prog_4_method_6_code
def yX2_high : MethodName := ⟨RX2, "high", "(I)I"⟩
abbrev cX2_otherEnd : ByteArray := prog_4_method_7_code
def yX2_otherEnd : MethodName := ⟨RX2, "otherEnd", "(II)I"⟩
abbrev cX2_beside : ByteArray := prog_4_method_8_code
def yX2_beside : MethodName := ⟨RX2, "beside", "(II)I"⟩
abbrev cX2_measure : ByteArray := prog_4_method_9_code
def yX2_measure : MethodName := ⟨RX2, "measure", "([III)V"⟩
abbrev cX2_settle : ByteArray := prog_4_method_10_code
def yX2_settle : MethodName := ⟨RX2, "settle", "([II)V"⟩
abbrev cX2_lower : ByteArray := prog_4_method_11_code
def yX2_lower : MethodName := ⟨RX2, "lower", "([III)Z"⟩
def RX3 : String := "PlateauBench$Nets"
def TX3 : u_T := fun k => match k with
  | 0 => ("PlateauBench$Nets", "nodes", "[I", true)
  | 1 => ("PlateauBench$Nets", "count", "I", false)
  | 2 => ("PlateauBench$Nets", "joined", "[I", true)
  | 3 => ("PlateauBench$Nets", "isJoined", "Z", false)
  | 4 => ("PlateauBench$Nets", "wayTo", "[I", true)
  | 5 => ("PlateauBench$Nets", "row", "[I", true)
  | _ => ("PlateauBench$Nets", "reach", "[I", true)
def tyX3 : Nat → FieldType := fun k => match k with
  | 0 => .array .int
  | 1 => .int
  | 2 => .array .int
  | 3 => .boolean
  | 4 => .array .int
  | 5 => .array .int
  | _ => .array .int
abbrev wsX30 : List Cond := u_ws RX3 TX3 7
theorem nmX3 : ∀ a, a < 7 → ∀ b, b < 7 → a ≠ b → (TX3 a).2.1 ≠ (TX3 b).2.1 := by decide +kernel
theorem tyX3_ok : ∀ k, k < 7 → parseFieldDescriptor (TX3 k).2.2.1 = some (tyX3 k) := by decide +kernel
abbrev cX3_init : ByteArray := prog_5_method_1_code
def yX3_init : MethodName := ⟨RX3, "<init>", "()V"⟩
abbrev cX3_size : ByteArray := prog_5_method_2_code
def yX3_size : MethodName := ⟨RX3, "size", "()I"⟩
abbrev cX3_isFull : ByteArray := prog_5_method_3_code
def yX3_isFull : MethodName := ⟨RX3, "isFull", "()Z"⟩
abbrev cX3_nodeOf : ByteArray := prog_5_method_4_code
def yX3_nodeOf : MethodName := ⟨RX3, "nodeOf", "(I)I"⟩
abbrev cX3_hasTownAt : ByteArray := prog_5_method_5_code
def yX3_hasTownAt : MethodName := ⟨RX3, "hasTownAt", "(I)Z"⟩
abbrev cX3_add : ByteArray := prog_5_method_6_code
def yX3_add : MethodName := ⟨RX3, "add", "(I)I"⟩
abbrev cX3_remove : ByteArray := prog_5_method_7_code
def yX3_remove : MethodName := ⟨RX3, "remove", "(I)I"⟩
abbrev cX3_forget : ByteArray := prog_5_method_8_code
def yX3_forget : MethodName := ⟨RX3, "forget", "()V"⟩
abbrev cX3_cheapest : ByteArray := prog_5_method_9_code
def yX3_cheapest : MethodName := ⟨RX3, "cheapest", "(LPlateauBench$Grid;)I"⟩
abbrev cX3_isInCheapest : ByteArray := prog_5_method_10_code
def yX3_isInCheapest : MethodName := ⟨RX3, "isInCheapest", "(LPlateauBench$Grid;I)Z"⟩
abbrev cX3_allTowns : ByteArray := prog_5_method_11_code
def yX3_allTowns : MethodName := ⟨RX3, "allTowns", "()I"⟩
abbrev cX3_joinAll : ByteArray := prog_5_method_12_code
def yX3_joinAll : MethodName := ⟨RX3, "joinAll", "(LPlateauBench$Grid;)V"⟩
abbrev cX3_joinParts : ByteArray := prog_5_method_13_code
def yX3_joinParts : MethodName := ⟨RX3, "joinParts", "(I)V"⟩
abbrev cX3_cheapestOfShapes : ByteArray := prog_5_method_14_code
def yX3_cheapestOfShapes : MethodName := ⟨RX3, "cheapestOfShapes", "(LPlateauBench$Grid;)I"⟩
abbrev cX3_hungOn : ByteArray := prog_5_method_15_code
def yX3_hungOn : MethodName := ⟨RX3, "hungOn", "(II)I"⟩
abbrev cX3_lowerBound : ByteArray := prog_5_method_16_code
def yX3_lowerBound : MethodName := ⟨RX3, "lowerBound", "(LPlateauBench$Grid;)I"⟩
abbrev cX3_halfUp : ByteArray := prog_5_method_17_code
def yX3_halfUp : MethodName := ⟨RX3, "halfUp", "(I)I"⟩
abbrev cX3_measureTowns : ByteArray := prog_5_method_18_code
def yX3_measureTowns : MethodName := ⟨RX3, "measureTowns", "(LPlateauBench$Grid;)V"⟩
abbrev cX3_between : ByteArray := prog_5_method_19_code
def yX3_between : MethodName := ⟨RX3, "between", "(II)I"⟩
abbrev cX3_farthestPair : ByteArray := prog_5_method_20_code
def yX3_farthestPair : MethodName := ⟨RX3, "farthestPair", "()I"⟩
abbrev cX3_farthestThree : ByteArray := prog_5_method_21_code
def yX3_farthestThree : MethodName := ⟨RX3, "farthestThree", "()I"⟩
abbrev cX3_cheapestPairs : ByteArray := prog_5_method_22_code
def yX3_cheapestPairs : MethodName := ⟨RX3, "cheapestPairs", "()I"⟩
abbrev cX3_nearestOutside : ByteArray := prog_5_method_23_code
def yX3_nearestOutside : MethodName := ⟨RX3, "nearestOutside", "()I"⟩
def RX4 : String := "PlateauBench$TwoWays"
def TX4 : u_T := fun k => match k with
  | 0 => ("PlateauBench$TwoWays", "row", "[I", true)
  | _ => ("PlateauBench$TwoWays", "taken", "[I", true)
def tyX4 : Nat → FieldType := fun k => match k with
  | 0 => .array .int
  | _ => .array .int
abbrev wsX40 : List Cond := u_ws RX4 TX4 2
theorem nmX4 : ∀ a, a < 2 → ∀ b, b < 2 → a ≠ b → (TX4 a).2.1 ≠ (TX4 b).2.1 := by decide +kernel
theorem tyX4_ok : ∀ k, k < 2 → parseFieldDescriptor (TX4 k).2.2.1 = some (tyX4 k) := by decide +kernel
abbrev cX4_init : ByteArray := prog_6_method_1_code
def yX4_init : MethodName := ⟨RX4, "<init>", "()V"⟩
abbrev cX4_cheapest : ByteArray := prog_6_method_2_code
def yX4_cheapest : MethodName := ⟨RX4, "cheapest", "(LPlateauBench$Grid;II)I"⟩
abbrev cX4_cheapestPair : ByteArray := prog_6_method_3_code
def yX4_cheapestPair : MethodName := ⟨RX4, "cheapestPair", "(LPlateauBench$Grid;II)I"⟩
abbrev cX4_takeWayBack : ByteArray := prog_6_method_4_code
def yX4_takeWayBack : MethodName := ⟨RX4, "takeWayBack", "(LPlateauBench$Grid;I)V"⟩
abbrev cX4_stepBack : ByteArray := prog_6_method_5_code
def yX4_stepBack : MethodName := ⟨RX4, "stepBack", "(LPlateauBench$Grid;I)I"⟩
abbrev cX4_measureBesideTaken : ByteArray := prog_6_method_6_code
def yX4_measureBesideTaken : MethodName := ⟨RX4, "measureBesideTaken", "(LPlateauBench$Grid;I)V"⟩
abbrev cX4_lower : ByteArray := prog_6_method_7_code
def yX4_lower : MethodName := ⟨RX4, "lower", "(LPlateauBench$Grid;III)Z"⟩
def RX5 : String := "PlateauBench"
def TX5 : u_T := fun k => match k with
  | 0 => ("PlateauBench", "grid", "LPlateauBench$Grid;", true)
  | 1 => ("PlateauBench", "ways", "LPlateauBench$TwoWays;", true)
  | 2 => ("PlateauBench", "nets", "LPlateauBench$Nets;", true)
  | 3 => ("PlateauBench", "films", "LPlateauBench$Films;", true)
  | _ => ("PlateauBench", "foam", "LPlateauBench$Foam;", true)
def tyX5 : Nat → FieldType := fun k => match k with
  | 0 => .object "PlateauBench$Grid"
  | 1 => .object "PlateauBench$TwoWays"
  | 2 => .object "PlateauBench$Nets"
  | 3 => .object "PlateauBench$Films"
  | _ => .object "PlateauBench$Foam"
abbrev wsX50 : List Cond := u_ws RX5 TX5 5
theorem nmX5 : ∀ a, a < 5 → ∀ b, b < 5 → a ≠ b → (TX5 a).2.1 ≠ (TX5 b).2.1 := by decide +kernel
theorem tyX5_ok : ∀ k, k < 5 → parseFieldDescriptor (TX5 k).2.2.1 = some (tyX5 k) := by decide +kernel
abbrev cX5_init : ByteArray := prog_1_method_1_code
def yX5_init : MethodName := ⟨RX5, "<init>", "()V"⟩
abbrev cX5_cost : ByteArray := prog_1_method_2_code
def yX5_cost : MethodName := ⟨RX5, "cost", "(II)I"⟩
abbrev cX5_lay : ByteArray := prog_1_method_3_code
def yX5_lay : MethodName := ⟨RX5, "lay", "(II)I"⟩
abbrev cX5_edge : ByteArray := prog_1_method_4_code
def yX5_edge : MethodName := ⟨RX5, "edge", "(I)I"⟩
abbrev cX5_apart : ByteArray := prog_1_method_5_code
def yX5_apart : MethodName := ⟨RX5, "apart", "(II)I"⟩
abbrev cX5_town : ByteArray := prog_1_method_6_code
def yX5_town : MethodName := ⟨RX5, "town", "(I)I"⟩
abbrev cX5_away : ByteArray := prog_1_method_7_code
def yX5_away : MethodName := ⟨RX5, "away", "(I)I"⟩
abbrev cX5_townAt : ByteArray := prog_1_method_8_code
def yX5_townAt : MethodName := ⟨RX5, "townAt", "(I)I"⟩
abbrev cX5_least : ByteArray := prog_1_method_9_code
def yX5_least : MethodName := ⟨RX5, "least", "()I"⟩
abbrev cX5_leastAnew : ByteArray := prog_1_method_10_code
def yX5_leastAnew : MethodName := ⟨RX5, "leastAnew", "()I"⟩
abbrev cX5_bound : ByteArray := prog_1_method_11_code
def yX5_bound : MethodName := ⟨RX5, "bound", "()I"⟩
abbrev cX5_gap : ByteArray := prog_1_method_12_code
def yX5_gap : MethodName := ⟨RX5, "gap", "()I"⟩
abbrev cX5_isUsed : ByteArray := prog_1_method_13_code
def yX5_isUsed : MethodName := ⟨RX5, "isUsed", "(I)Z"⟩
abbrev cX5_twoWays : ByteArray := prog_1_method_14_code
def yX5_twoWays : MethodName := ⟨RX5, "twoWays", "(II)I"⟩
abbrev cX5_pin : ByteArray := prog_1_method_15_code
def yX5_pin : MethodName := ⟨RX5, "pin", "(II)I"⟩
abbrev cX5_film : ByteArray := prog_1_method_16_code
def yX5_film : MethodName := ⟨RX5, "film", "()I"⟩
abbrev cX5_proof : ByteArray := prog_1_method_17_code
def yX5_proof : MethodName := ⟨RX5, "proof", "()I"⟩
abbrev cX5_side : ByteArray := prog_1_method_18_code
def yX5_side : MethodName := ⟨RX5, "side", "(Z)J"⟩
abbrev cX5_costOf : ByteArray := prog_1_method_19_code
def yX5_costOf : MethodName := ⟨RX5, "costOf", "(J)I"⟩
abbrev cX5_pull : ByteArray := prog_1_method_20_code
def yX5_pull : MethodName := ⟨RX5, "pull", "(II)I"⟩
abbrev cX5_hold : ByteArray := prog_1_method_21_code
def yX5_hold : MethodName := ⟨RX5, "hold", "(IZ)Z"⟩
abbrev cX5_breathe : ByteArray := prog_1_method_22_code
def yX5_breathe : MethodName := ⟨RX5, "breathe", "(I)I"⟩
abbrev cX5_bubbleAt : ByteArray := prog_1_method_23_code
def yX5_bubbleAt : MethodName := ⟨RX5, "bubbleAt", "(I)I"⟩
abbrev cX5_bubble : ByteArray := prog_1_method_24_code
def yX5_bubble : MethodName := ⟨RX5, "bubble", "(II)I"⟩
abbrev cX5_wall : ByteArray := prog_1_method_25_code
def yX5_wall : MethodName := ⟨RX5, "wall", "(II)I"⟩
abbrev cX5_corners : ByteArray := prog_1_method_26_code
def yX5_corners : MethodName := ⟨RX5, "corners", "(I)I"⟩
abbrev cX5_rests : ByteArray := prog_1_method_27_code
def yX5_rests : MethodName := ⟨RX5, "rests", "()I"⟩
abbrev cX5_energy : ByteArray := prog_1_method_28_code
def yX5_energy : MethodName := ⟨RX5, "energy", "(I)I"⟩
abbrev cX5_takeInNewPrices : ByteArray := prog_1_method_29_code
def yX5_takeInNewPrices : MethodName := ⟨RX5, "takeInNewPrices", "(I)V"⟩
abbrev cX5_checkNode : ByteArray := prog_1_method_30_code
def yX5_checkNode : MethodName := ⟨RX5, "checkNode", "(I)V"⟩
abbrev cX5_checkEdge : ByteArray := prog_1_method_31_code
def yX5_checkEdge : MethodName := ⟨RX5, "checkEdge", "(I)V"⟩
abbrev cX5_checkTown : ByteArray := prog_1_method_32_code
def yX5_checkTown : MethodName := ⟨RX5, "checkTown", "(I)V"⟩
abbrev cX5_checkBubble : ByteArray := prog_1_method_33_code
def yX5_checkBubble : MethodName := ⟨RX5, "checkBubble", "(I)V"⟩
def RX6 : String := "PlateauBenchModel"
def TX6 : u_T := fun k => match k with
  | 0 => ("PlateauBenchModel", "thrown", "I", false)
  | 1 => ("PlateauBenchModel", "prices", "[I", true)
  | 2 => ("PlateauBenchModel", "laid", "[I", true)
  | 3 => ("PlateauBenchModel", "towns", "I", false)
  | 4 => ("PlateauBenchModel", "townNodes", "[I", true)
  | 5 => ("PlateauBenchModel", "pins", "[I", true)
  | 6 => ("PlateauBenchModel", "bubbles", "[I", true)
  | 7 => ("PlateauBenchModel", "isHeld", "[Z", true)
  | 8 => ("PlateauBenchModel", "work", "I", false)
  | 9 => ("PlateauBenchModel", "lost", "I", false)
  | 10 => ("PlateauBenchModel", "far", "[I", true)
  | 11 => ("PlateauBenchModel", "ends", "[I", true)
  | 12 => ("PlateauBenchModel", "nets", "[I", true)
  | 13 => ("PlateauBenchModel", "flow", "[I", true)
  | 14 => ("PlateauBenchModel", "came", "[I", true)
  | 15 => ("PlateauBenchModel", "isReached", "[Z", true)
  | 16 => ("PlateauBenchModel", "kept", "[I", true)
  | 17 => ("PlateauBenchModel", "pieces", "[I", true)
  | _ => ("PlateauBenchModel", "free", "I", false)
def tyX6 : Nat → FieldType := fun k => match k with
  | 0 => .int
  | 1 => .array .int
  | 2 => .array .int
  | 3 => .int
  | 4 => .array .int
  | 5 => .array .int
  | 6 => .array .int
  | 7 => .array .boolean
  | 8 => .int
  | 9 => .int
  | 10 => .array .int
  | 11 => .array .int
  | 12 => .array .int
  | 13 => .array .int
  | 14 => .array .int
  | 15 => .array .boolean
  | 16 => .array .int
  | 17 => .array .int
  | _ => .int
abbrev wsX60 : List Cond := u_ws RX6 TX6 19
theorem nmX6 : ∀ a, a < 19 → ∀ b, b < 19 → a ≠ b → (TX6 a).2.1 ≠ (TX6 b).2.1 := by decide +kernel
theorem tyX6_ok : ∀ k, k < 19 → parseFieldDescriptor (TX6 k).2.2.1 = some (tyX6 k) := by decide +kernel
abbrev cX6_init : ByteArray := prog_8_method_1_code
def yX6_init : MethodName := ⟨RX6, "<init>", "()V"⟩
abbrev cX6_thrown : ByteArray := prog_8_method_2_code
def yX6_thrown : MethodName := ⟨RX6, "thrown", "()I"⟩
abbrev cX6_in : ByteArray := prog_8_method_3_code
def yX6_in : MethodName := ⟨RX6, "in", "(III)Z"⟩
abbrev cX6_refused : ByteArray := prog_8_method_4_code
def yX6_refused : MethodName := ⟨RX6, "refused", "(I)Z"⟩
abbrev cX6_isNode : ByteArray := prog_8_method_5_code
def yX6_isNode : MethodName := ⟨RX6, "isNode", "(I)Z"⟩
abbrev cX6_isEdge : ByteArray := prog_8_method_6_code
def yX6_isEdge : MethodName := ⟨RX6, "isEdge", "(I)Z"⟩
abbrev cX6_isBubble : ByteArray := prog_8_method_7_code
def yX6_isBubble : MethodName := ⟨RX6, "isBubble", "(I)Z"⟩
abbrev cX6_first : ByteArray := prog_8_method_8_code
def yX6_first : MethodName := ⟨RX6, "first", "(I)I"⟩
abbrev cX6_second : ByteArray := prog_8_method_9_code
def yX6_second : MethodName := ⟨RX6, "second", "(I)I"⟩
abbrev cX6_costOfEdge : ByteArray := prog_8_method_10_code
def yX6_costOfEdge : MethodName := ⟨RX6, "costOfEdge", "(I)I"⟩
abbrev cX6_cost : ByteArray := prog_8_method_11_code
def yX6_cost : MethodName := ⟨RX6, "cost", "(II)I"⟩
abbrev cX6_lay : ByteArray := prog_8_method_12_code
def yX6_lay : MethodName := ⟨RX6, "lay", "(II)I"⟩
abbrev cX6_edge : ByteArray := prog_8_method_13_code
def yX6_edge : MethodName := ⟨RX6, "edge", "(I)I"⟩
abbrev cX6_findFar : ByteArray := prog_8_method_14_code
def yX6_findFar : MethodName := ⟨RX6, "findFar", "(I)V"⟩
abbrev cX6_apartFrom : ByteArray := prog_8_method_15_code
def yX6_apartFrom : MethodName := ⟨RX6, "apartFrom", "(II)I"⟩
abbrev cX6_apart : ByteArray := prog_8_method_16_code
def yX6_apart : MethodName := ⟨RX6, "apart", "(II)I"⟩
abbrev cX6_isTown : ByteArray := prog_8_method_17_code
def yX6_isTown : MethodName := ⟨RX6, "isTown", "(I)Z"⟩
abbrev cX6_town : ByteArray := prog_8_method_18_code
def yX6_town : MethodName := ⟨RX6, "town", "(I)I"⟩
abbrev cX6_away : ByteArray := prog_8_method_19_code
def yX6_away : MethodName := ⟨RX6, "away", "(I)I"⟩
abbrev cX6_townAt : ByteArray := prog_8_method_20_code
def yX6_townAt : MethodName := ⟨RX6, "townAt", "(I)I"⟩
abbrev cX6_spread : ByteArray := prog_8_method_21_code
def yX6_spread : MethodName := ⟨RX6, "spread", "(I)V"⟩
abbrev cX6_leastOf : ByteArray := prog_8_method_22_code
def yX6_leastOf : MethodName := ⟨RX6, "leastOf", "(I)I"⟩
abbrev cX6_leastNow : ByteArray := prog_8_method_23_code
def yX6_leastNow : MethodName := ⟨RX6, "leastNow", "()I"⟩
abbrev cX6_least : ByteArray := prog_8_method_24_code
def yX6_least : MethodName := ⟨RX6, "least", "()I"⟩
abbrev cX6_leastAnew : ByteArray := prog_8_method_25_code
def yX6_leastAnew : MethodName := ⟨RX6, "leastAnew", "()I"⟩
abbrev cX6_treeOfPairs : ByteArray := prog_8_method_26_code
def yX6_treeOfPairs : MethodName := ⟨RX6, "treeOfPairs", "()I"⟩
abbrev cX6_boundNow : ByteArray := prog_8_method_27_code
def yX6_boundNow : MethodName := ⟨RX6, "boundNow", "()I"⟩
abbrev cX6_bound : ByteArray := prog_8_method_28_code
def yX6_bound : MethodName := ⟨RX6, "bound", "()I"⟩
abbrev cX6_gap : ByteArray := prog_8_method_29_code
def yX6_gap : MethodName := ⟨RX6, "gap", "()I"⟩
abbrev cX6_isUsed : ByteArray := prog_8_method_30_code
def yX6_isUsed : MethodName := ⟨RX6, "isUsed", "(I)Z"⟩
abbrev cX6_stepCost : ByteArray := prog_8_method_31_code
def yX6_stepCost : MethodName := ⟨RX6, "stepCost", "(IZ)I"⟩
abbrev cX6_oneWay : ByteArray := prog_8_method_32_code
def yX6_oneWay : MethodName := ⟨RX6, "oneWay", "(II)I"⟩
abbrev cX6_twoWays : ByteArray := prog_8_method_33_code
def yX6_twoWays : MethodName := ⟨RX6, "twoWays", "(II)I"⟩
abbrev cX6_pin : ByteArray := prog_8_method_34_code
def yX6_pin : MethodName := ⟨RX6, "pin", "(II)I"⟩
abbrev cX6_rest : ByteArray := prog_8_method_35_code
def yX6_rest : MethodName := ⟨RX6, "rest", "(IZ)I"⟩
abbrev cX6_reach : ByteArray := prog_8_method_36_code
def yX6_reach : MethodName := ⟨RX6, "reach", "(IZ)V"⟩
abbrev cX6_reachedOutside : ByteArray := prog_8_method_37_code
def yX6_reachedOutside : MethodName := ⟨RX6, "reachedOutside", "()I"⟩
abbrev cX6_push : ByteArray := prog_8_method_38_code
def yX6_push : MethodName := ⟨RX6, "push", "(I)V"⟩
abbrev cX6_greatestFlow : ByteArray := prog_8_method_39_code
def yX6_greatestFlow : MethodName := ⟨RX6, "greatestFlow", "()I"⟩
abbrev cX6_film : ByteArray := prog_8_method_40_code
def yX6_film : MethodName := ⟨RX6, "film", "()I"⟩
abbrev cX6_proof : ByteArray := prog_8_method_41_code
def yX6_proof : MethodName := ⟨RX6, "proof", "()I"⟩
abbrev cX6_side : ByteArray := prog_8_method_42_code
def yX6_side : MethodName := ⟨RX6, "side", "(Z)J"⟩
abbrev cX6_costOf : ByteArray := prog_8_method_43_code
def yX6_costOf : MethodName := ⟨RX6, "costOf", "(J)I"⟩
abbrev cX6_energyNow : ByteArray := prog_8_method_44_code
def yX6_energyNow : MethodName := ⟨RX6, "energyNow", "()I"⟩
abbrev cX6_pull : ByteArray := prog_8_method_45_code
def yX6_pull : MethodName := ⟨RX6, "pull", "(II)I"⟩
abbrev cX6_hold : ByteArray := prog_8_method_46_code
def yX6_hold : MethodName := ⟨RX6, "hold", "(IZ)Z"⟩
abbrev cX6_wallsOf : ByteArray := prog_8_method_47_code
def yX6_wallsOf : MethodName := ⟨RX6, "wallsOf", "(II)I"⟩
abbrev cX6_isBeside : ByteArray := prog_8_method_48_code
def yX6_isBeside : MethodName := ⟨RX6, "isBeside", "(II)Z"⟩
abbrev cX6_bestFor : ByteArray := prog_8_method_49_code
def yX6_bestFor : MethodName := ⟨RX6, "bestFor", "(I)I"⟩
abbrev cX6_breath : ByteArray := prog_8_method_50_code
def yX6_breath : MethodName := ⟨RX6, "breath", "()I"⟩
abbrev cX6_breathe : ByteArray := prog_8_method_51_code
def yX6_breathe : MethodName := ⟨RX6, "breathe", "(I)I"⟩
abbrev cX6_bubbleAt : ByteArray := prog_8_method_52_code
def yX6_bubbleAt : MethodName := ⟨RX6, "bubbleAt", "(I)I"⟩
abbrev cX6_nodesOf : ByteArray := prog_8_method_53_code
def yX6_nodesOf : MethodName := ⟨RX6, "nodesOf", "(I)I"⟩
abbrev cX6_piecesOf : ByteArray := prog_8_method_54_code
def yX6_piecesOf : MethodName := ⟨RX6, "piecesOf", "(I)I"⟩
abbrev cX6_wallBetween : ByteArray := prog_8_method_55_code
def yX6_wallBetween : MethodName := ⟨RX6, "wallBetween", "(II)I"⟩
abbrev cX6_wallsOfBubble : ByteArray := prog_8_method_56_code
def yX6_wallsOfBubble : MethodName := ⟨RX6, "wallsOfBubble", "(IZ)I"⟩
abbrev cX6_bubble : ByteArray := prog_8_method_57_code
def yX6_bubble : MethodName := ⟨RX6, "bubble", "(II)I"⟩
abbrev cX6_wall : ByteArray := prog_8_method_58_code
def yX6_wall : MethodName := ⟨RX6, "wall", "(II)I"⟩
abbrev cX6_kindsAt : ByteArray := prog_8_method_59_code
def yX6_kindsAt : MethodName := ⟨RX6, "kindsAt", "(I)I"⟩
abbrev cX6_corners : ByteArray := prog_8_method_60_code
def yX6_corners : MethodName := ⟨RX6, "corners", "(I)I"⟩
abbrev cX6_resting : ByteArray := prog_8_method_61_code
def yX6_resting : MethodName := ⟨RX6, "resting", "(Z)I"⟩
abbrev cX6_rests : ByteArray := prog_8_method_62_code
def yX6_rests : MethodName := ⟨RX6, "rests", "()I"⟩
abbrev cX6_energy : ByteArray := prog_8_method_63_code
def yX6_energy : MethodName := ⟨RX6, "energy", "(I)I"⟩
def RJ6 : String := "java/lang/Integer"
def TJ6 : u_T := fun k => match k with
  | _ => ("", "", "", false)
def tyJ6 : Nat → FieldType := fun k => match k with
  | _ => .int
abbrev wsJ60 : List Cond := u_ws RJ6 TJ6 0
theorem nmJ6 : ∀ a, a < 0 → ∀ b, b < 0 → a ≠ b → (TJ6 a).2.1 ≠ (TJ6 b).2.1 := by decide +kernel
theorem tyJ6_ok : ∀ k, k < 0 → parseFieldDescriptor (TJ6 k).2.2.1 = some (tyJ6 k) := by decide +kernel
abbrev cJ6_bitCount_0f7a4 : ByteArray := prog_13_method_49_code
def yJ6_bitCount_0f7a4 : MethodName := ⟨RJ6, "bitCount", "(I)I"⟩
def RJ9 : String := "java/lang/Math"
def TJ9 : u_T := fun k => match k with
  | _ => ("", "", "", false)
def tyJ9 : Nat → FieldType := fun k => match k with
  | _ => .int
abbrev wsJ90 : List Cond := u_ws RJ9 TJ9 0
theorem nmJ9 : ∀ a, a < 0 → ∀ b, b < 0 → a ≠ b → (TJ9 a).2.1 ≠ (TJ9 b).2.1 := by decide +kernel
theorem tyJ9_ok : ∀ k, k < 0 → parseFieldDescriptor (TJ9 k).2.2.1 = some (tyJ9 k) := by decide +kernel
abbrev cJ9_max_7cf53 : ByteArray := prog_14_method_65_code
def yJ9_max_7cf53 : MethodName := ⟨RJ9, "max", "(II)I"⟩
abbrev cJ9_min_7cf53 : ByteArray := prog_14_method_69_code
def yJ9_min_7cf53 : MethodName := ⟨RJ9, "min", "(II)I"⟩
def RJ0 : String := "java/lang/String"
def TJ0 : u_T := fun k => match k with
  | _ => ("", "", "", false)
def tyJ0 : Nat → FieldType := fun k => match k with
  | _ => .int
abbrev wsJ00 : List Cond := u_ws RJ0 TJ0 0
theorem nmJ0 : ∀ a, a < 0 → ∀ b, b < 0 → a ≠ b → (TJ0 a).2.1 ≠ (TJ0 b).2.1 := by decide +kernel
theorem tyJ0_ok : ∀ k, k < 0 → parseFieldDescriptor (TJ0 k).2.2.1 = some (tyJ0 k) := by decide +kernel
def RJ10 : String := "java/lang/System"
def TJ10 : u_T := fun k => match k with
  | _ => ("", "", "", false)
def tyJ10 : Nat → FieldType := fun k => match k with
  | _ => .int
abbrev wsJ100 : List Cond := u_ws RJ10 TJ10 0
theorem nmJ10 : ∀ a, a < 0 → ∀ b, b < 0 → a ≠ b → (TJ10 a).2.1 ≠ (TJ10 b).2.1 := by decide +kernel
theorem tyJ10_ok : ∀ k, k < 0 → parseFieldDescriptor (TJ10 k).2.2.1 = some (tyJ10 k) := by decide +kernel
def RL : String := "PlateauBenchLaw"
abbrev cL_cost : ByteArray := method_3_code
def yL_cost : MethodName := ⟨RL, "cost", "(LPlateauBench;II[J)I"⟩
abbrev cL_lay : ByteArray := method_4_code
def yL_lay : MethodName := ⟨RL, "lay", "(LPlateauBench;II[J)I"⟩
abbrev cL_edge : ByteArray := method_5_code
def yL_edge : MethodName := ⟨RL, "edge", "(LPlateauBench;I[J)I"⟩
abbrev cL_apart : ByteArray := method_6_code
def yL_apart : MethodName := ⟨RL, "apart", "(LPlateauBench;II[J)I"⟩
abbrev cL_town : ByteArray := method_7_code
def yL_town : MethodName := ⟨RL, "town", "(LPlateauBench;I[J)I"⟩
abbrev cL_away : ByteArray := method_8_code
def yL_away : MethodName := ⟨RL, "away", "(LPlateauBench;I[J)I"⟩
abbrev cL_townAt : ByteArray := method_9_code
def yL_townAt : MethodName := ⟨RL, "townAt", "(LPlateauBench;I[J)I"⟩
abbrev cL_isUsed : ByteArray := method_10_code
def yL_isUsed : MethodName := ⟨RL, "isUsed", "(LPlateauBench;I[J)I"⟩
abbrev cL_twoWays : ByteArray := method_11_code
def yL_twoWays : MethodName := ⟨RL, "twoWays", "(LPlateauBench;II[J)I"⟩
abbrev cL_pin : ByteArray := method_12_code
def yL_pin : MethodName := ⟨RL, "pin", "(LPlateauBench;II[J)I"⟩
abbrev cL_costOf : ByteArray := method_13_code
def yL_costOf : MethodName := ⟨RL, "costOf", "(LPlateauBench;J[J)I"⟩
abbrev cL_pull : ByteArray := method_14_code
def yL_pull : MethodName := ⟨RL, "pull", "(LPlateauBench;II[J)I"⟩
abbrev cL_hold : ByteArray := method_15_code
def yL_hold : MethodName := ⟨RL, "hold", "(LPlateauBench;IZ[J)I"⟩
abbrev cL_breathe : ByteArray := method_16_code
def yL_breathe : MethodName := ⟨RL, "breathe", "(LPlateauBench;I[J)I"⟩
abbrev cL_bubbleAt : ByteArray := method_17_code
def yL_bubbleAt : MethodName := ⟨RL, "bubbleAt", "(LPlateauBench;I[J)I"⟩
abbrev cL_bubble : ByteArray := method_18_code
def yL_bubble : MethodName := ⟨RL, "bubble", "(LPlateauBench;II[J)I"⟩
abbrev cL_wall : ByteArray := method_19_code
def yL_wall : MethodName := ⟨RL, "wall", "(LPlateauBench;II[J)I"⟩
abbrev cL_corners : ByteArray := method_20_code
def yL_corners : MethodName := ⟨RL, "corners", "(LPlateauBench;I[J)I"⟩
abbrev cL_energy : ByteArray := method_21_code
def yL_energy : MethodName := ⟨RL, "energy", "(LPlateauBench;I[J)I"⟩
abbrev cL_law : ByteArray := code
def yL_law : MethodName := ⟨RL, "law", "([I)Z"⟩
def wsX0_init : List Cond := .code yX0_init cX0_init 1 none :: ([.methodLink RX0 3 objectInit, .instanceMethod objectInit, .code objectInit ⟨#[0xb1]⟩ 1 none, .arrayClass .int, .fieldLink RX0 9 "PlateauBench$Films" "pinned" "[I", .fieldLink RX0 15 "PlateauBench$Films" "flow" "[I", .fieldLink RX0 18 "PlateauBench$Films" "cameBy" "[I", .fieldLink RX0 21 "PlateauBench$Films" "queue" "[I"] ++ wsX00)
def wsX0_change : List Cond := .code yX0_change cX0_change 4 (some .int) :: ([.fieldLink RX0 9 "PlateauBench$Films" "pinned" "[I"] ++ wsX00)
def wsX0_has : List Cond := .code yX0_has cX0_has 3 (some .boolean) :: ([])
def wsX0_isFilm : List Cond := .code yX0_isFilm cX0_isFilm 4 (some .boolean) :: ([.fieldLink RX0 9 "PlateauBench$Films" "pinned" "[I", .methodLink RX0 24 yX0_has, .static yX0_has, .initialized RX0, .code yX0_has cX0_has 3 (some .boolean)] ++ wsX00)
def wsX2_low : List Cond := .code yX2_low cX2_low 2 (some .int) :: ([.fieldLink RX2 9 "PlateauBench$Grid" "low" "[I"] ++ wsX20)
def wsX2_high : List Cond := .code yX2_high cX2_high 2 (some .int) :: ([.fieldLink RX2 15 "PlateauBench$Grid" "high" "[I"] ++ wsX20)
def wsX2_price : List Cond := .code yX2_price cX2_price 2 (some .int) :: ([.fieldLink RX2 24 "PlateauBench$Grid" "prices" "[I"] ++ wsX20)
def wsX0_priceOf : List Cond := .code yX0_priceOf cX0_priceOf 6 (some .int) :: ([.methodLink RX0 28 yX2_low, .instanceMethod yX2_low, .selects RX2 yX2_low yX2_low, .initialized RX2, .code yX2_low cX2_low 2 (some .int), .fieldLink RX2 9 "PlateauBench$Grid" "low" "[I", .methodLink RX0 24 yX0_has, .static yX0_has, .initialized RX0, .code yX0_has cX0_has 3 (some .boolean), .methodLink RX0 34 yX2_high, .instanceMethod yX2_high, .selects RX2 yX2_high yX2_high, .code yX2_high cX2_high 2 (some .int), .fieldLink RX2 15 "PlateauBench$Grid" "high" "[I", .methodLink RX0 37 yX2_price, .instanceMethod yX2_price, .selects RX2 yX2_price yX2_price, .code yX2_price cX2_price 2 (some .int), .fieldLink RX2 24 "PlateauBench$Grid" "prices" "[I"] ++ wsX20)
def wsX2_beside : List Cond := .code yX2_beside cX2_beside 3 (some .int) :: ([.fieldLink RX2 18 "PlateauBench$Grid" "beside" "[I"] ++ wsX20)
def wsX2_otherEnd : List Cond := .code yX2_otherEnd cX2_otherEnd 3 (some .int) :: ([.fieldLink RX2 9 "PlateauBench$Grid" "low" "[I", .fieldLink RX2 15 "PlateauBench$Grid" "high" "[I"] ++ wsX20)
def wsX0_leftFrom : List Cond := .code yX0_leftFrom cX0_leftFrom 4 (some .int) :: ([.fieldLink RX0 15 "PlateauBench$Films" "flow" "[I", .methodLink RX0 37 yX2_price, .instanceMethod yX2_price, .selects RX2 yX2_price yX2_price, .initialized RX2, .code yX2_price cX2_price 2 (some .int), .fieldLink RX2 24 "PlateauBench$Grid" "prices" "[I", .methodLink RX0 28 yX2_low, .instanceMethod yX2_low, .selects RX2 yX2_low yX2_low, .code yX2_low cX2_low 2 (some .int), .fieldLink RX2 9 "PlateauBench$Grid" "low" "[I"] ++ wsX00 ++ wsX20)
def wsX0_searchBeside_r1 : List Cond := [Cond.fieldLink RX0 18 "PlateauBench$Films" "cameBy" "[I", Cond.fieldLink RX0 21 "PlateauBench$Films" "queue" "[I", Cond.methodLink RX0 70 yX2_beside, Cond.instanceMethod yX2_beside, Cond.selects RX2 yX2_beside yX2_beside, Cond.initialized RX2, Cond.code yX2_beside cX2_beside 3 (some .int), Cond.fieldLink RX2 18 "PlateauBench$Grid" "beside" "[I", Cond.methodLink RX0 74 yX2_otherEnd, Cond.instanceMethod yX2_otherEnd, Cond.selects RX2 yX2_otherEnd yX2_otherEnd, Cond.code yX2_otherEnd cX2_otherEnd 3 (some .int), Cond.fieldLink RX2 9 "PlateauBench$Grid" "low" "[I", Cond.fieldLink RX2 15 "PlateauBench$Grid" "high" "[I", Cond.methodLink RX0 77 yX0_leftFrom, Cond.instanceMethod yX0_leftFrom, Cond.selects RX0 yX0_leftFrom yX0_leftFrom, Cond.initialized RX0, Cond.code yX0_leftFrom cX0_leftFrom 4 (some .int), Cond.fieldLink RX0 15 "PlateauBench$Films" "flow" "[I", Cond.methodLink RX0 37 yX2_price, Cond.instanceMethod yX2_price, Cond.selects RX2 yX2_price yX2_price, Cond.code yX2_price cX2_price 2 (some .int)]
def wsX0_searchBeside_r2 : List Cond := [Cond.fieldLink RX2 24 "PlateauBench$Grid" "prices" "[I", Cond.methodLink RX0 28 yX2_low, Cond.instanceMethod yX2_low, Cond.selects RX2 yX2_low yX2_low, Cond.code yX2_low cX2_low 2 (some .int)]
def wsX0_searchBeside : List Cond := .code yX0_searchBeside cX0_searchBeside 10 (some .int) :: ((wsX0_searchBeside_r1 ++ wsX0_searchBeside_r2) ++ wsX00 ++ wsX20)
def wsX0_search_r1 : List Cond := [Cond.fieldLink RX0 18 "PlateauBench$Films" "cameBy" "[I", Cond.fieldLink RX0 9 "PlateauBench$Films" "pinned" "[I", Cond.fieldLink RX0 21 "PlateauBench$Films" "queue" "[I", Cond.methodLink RX0 66 yX0_searchBeside, Cond.instanceMethod yX0_searchBeside, Cond.selects RX0 yX0_searchBeside yX0_searchBeside, Cond.initialized RX0, Cond.code yX0_searchBeside cX0_searchBeside 10 (some .int), Cond.methodLink RX0 70 yX2_beside, Cond.instanceMethod yX2_beside, Cond.selects RX2 yX2_beside yX2_beside, Cond.initialized RX2, Cond.code yX2_beside cX2_beside 3 (some .int), Cond.fieldLink RX2 18 "PlateauBench$Grid" "beside" "[I", Cond.methodLink RX0 74 yX2_otherEnd, Cond.instanceMethod yX2_otherEnd, Cond.selects RX2 yX2_otherEnd yX2_otherEnd, Cond.code yX2_otherEnd cX2_otherEnd 3 (some .int), Cond.fieldLink RX2 9 "PlateauBench$Grid" "low" "[I", Cond.fieldLink RX2 15 "PlateauBench$Grid" "high" "[I", Cond.methodLink RX0 77 yX0_leftFrom, Cond.instanceMethod yX0_leftFrom, Cond.selects RX0 yX0_leftFrom yX0_leftFrom, Cond.code yX0_leftFrom cX0_leftFrom 4 (some .int)]
def wsX0_search_r2 : List Cond := [Cond.fieldLink RX0 15 "PlateauBench$Films" "flow" "[I", Cond.methodLink RX0 37 yX2_price, Cond.instanceMethod yX2_price, Cond.selects RX2 yX2_price yX2_price, Cond.code yX2_price cX2_price 2 (some .int), Cond.fieldLink RX2 24 "PlateauBench$Grid" "prices" "[I", Cond.methodLink RX0 28 yX2_low, Cond.instanceMethod yX2_low, Cond.selects RX2 yX2_low yX2_low, Cond.code yX2_low cX2_low 2 (some .int)]
def wsX0_search : List Cond := .code yX0_search cX0_search 5 (some .int) :: ((wsX0_search_r1 ++ wsX0_search_r2) ++ wsX00 ++ wsX20)
def wsX0_nearestOutside : List Cond := .code yX0_nearestOutside cX0_nearestOutside 3 (some .int) :: ([.fieldLink RX0 9 "PlateauBench$Films" "pinned" "[I", .fieldLink RX0 21 "PlateauBench$Films" "queue" "[I"] ++ wsX00)
def wsX0_mostAlong_r1 : List Cond := [Cond.constant RX0 81 (1000000), Cond.fieldLink RX0 18 "PlateauBench$Films" "cameBy" "[I", Cond.methodLink RX0 82 Lib.Math.min.name, Cond.static Lib.Math.min.name, Cond.initialized "java/lang/Math", Cond.code Lib.Math.min.name Lib.Math.min.code 2 (some .int), Cond.methodLink RX0 74 yX2_otherEnd, Cond.instanceMethod yX2_otherEnd, Cond.selects RX2 yX2_otherEnd yX2_otherEnd, Cond.initialized RX2, Cond.code yX2_otherEnd cX2_otherEnd 3 (some .int), Cond.fieldLink RX2 9 "PlateauBench$Grid" "low" "[I", Cond.fieldLink RX2 15 "PlateauBench$Grid" "high" "[I", Cond.methodLink RX0 77 yX0_leftFrom, Cond.instanceMethod yX0_leftFrom, Cond.selects RX0 yX0_leftFrom yX0_leftFrom, Cond.initialized RX0, Cond.code yX0_leftFrom cX0_leftFrom 4 (some .int), Cond.fieldLink RX0 15 "PlateauBench$Films" "flow" "[I", Cond.methodLink RX0 37 yX2_price, Cond.instanceMethod yX2_price, Cond.selects RX2 yX2_price yX2_price, Cond.code yX2_price cX2_price 2 (some .int), Cond.fieldLink RX2 24 "PlateauBench$Grid" "prices" "[I"]
def wsX0_mostAlong_r2 : List Cond := [Cond.methodLink RX0 28 yX2_low, Cond.instanceMethod yX2_low, Cond.selects RX2 yX2_low yX2_low, Cond.code yX2_low cX2_low 2 (some .int)]
def wsX0_mostAlong : List Cond := .code yX0_mostAlong cX0_mostAlong 7 (some .int) :: ((wsX0_mostAlong_r1 ++ wsX0_mostAlong_r2) ++ wsX00 ++ wsX20)
def wsX0_push : List Cond := .code yX0_push cX0_push 7 none :: ([.fieldLink RX0 18 "PlateauBench$Films" "cameBy" "[I", .fieldLink RX0 15 "PlateauBench$Films" "flow" "[I", .methodLink RX0 74 yX2_otherEnd, .instanceMethod yX2_otherEnd, .selects RX2 yX2_otherEnd yX2_otherEnd, .initialized RX2, .code yX2_otherEnd cX2_otherEnd 3 (some .int), .fieldLink RX2 9 "PlateauBench$Grid" "low" "[I", .fieldLink RX2 15 "PlateauBench$Grid" "high" "[I", .methodLink RX0 28 yX2_low, .instanceMethod yX2_low, .selects RX2 yX2_low yX2_low, .code yX2_low cX2_low 2 (some .int)] ++ wsX00 ++ wsX20)
def wsX0_fillField_r1 : List Cond := [Cond.fieldLink RX0 15 "PlateauBench$Films" "flow" "[I", Cond.methodLink RX0 44 yX0_search, Cond.instanceMethod yX0_search, Cond.selects RX0 yX0_search yX0_search, Cond.initialized RX0, Cond.code yX0_search cX0_search 5 (some .int), Cond.fieldLink RX0 18 "PlateauBench$Films" "cameBy" "[I", Cond.fieldLink RX0 9 "PlateauBench$Films" "pinned" "[I", Cond.fieldLink RX0 21 "PlateauBench$Films" "queue" "[I", Cond.methodLink RX0 66 yX0_searchBeside, Cond.instanceMethod yX0_searchBeside, Cond.selects RX0 yX0_searchBeside yX0_searchBeside, Cond.code yX0_searchBeside cX0_searchBeside 10 (some .int), Cond.methodLink RX0 70 yX2_beside, Cond.instanceMethod yX2_beside, Cond.selects RX2 yX2_beside yX2_beside, Cond.initialized RX2, Cond.code yX2_beside cX2_beside 3 (some .int), Cond.fieldLink RX2 18 "PlateauBench$Grid" "beside" "[I", Cond.methodLink RX0 74 yX2_otherEnd, Cond.instanceMethod yX2_otherEnd, Cond.selects RX2 yX2_otherEnd yX2_otherEnd, Cond.code yX2_otherEnd cX2_otherEnd 3 (some .int), Cond.fieldLink RX2 9 "PlateauBench$Grid" "low" "[I"]
def wsX0_fillField_r2 : List Cond := [Cond.fieldLink RX2 15 "PlateauBench$Grid" "high" "[I", Cond.methodLink RX0 77 yX0_leftFrom, Cond.instanceMethod yX0_leftFrom, Cond.selects RX0 yX0_leftFrom yX0_leftFrom, Cond.code yX0_leftFrom cX0_leftFrom 4 (some .int), Cond.methodLink RX0 37 yX2_price, Cond.instanceMethod yX2_price, Cond.selects RX2 yX2_price yX2_price, Cond.code yX2_price cX2_price 2 (some .int), Cond.fieldLink RX2 24 "PlateauBench$Grid" "prices" "[I", Cond.methodLink RX0 28 yX2_low, Cond.instanceMethod yX2_low, Cond.selects RX2 yX2_low yX2_low, Cond.code yX2_low cX2_low 2 (some .int), Cond.methodLink RX0 56 yX0_nearestOutside, Cond.instanceMethod yX0_nearestOutside, Cond.selects RX0 yX0_nearestOutside yX0_nearestOutside, Cond.code yX0_nearestOutside cX0_nearestOutside 3 (some .int), Cond.methodLink RX0 59 yX0_mostAlong, Cond.instanceMethod yX0_mostAlong, Cond.selects RX0 yX0_mostAlong yX0_mostAlong, Cond.code yX0_mostAlong cX0_mostAlong 7 (some .int), Cond.constant RX0 81 (1000000), Cond.methodLink RX0 82 Lib.Math.min.name]
def wsX0_fillField_r3 : List Cond := [Cond.static Lib.Math.min.name, Cond.initialized "java/lang/Math", Cond.code Lib.Math.min.name Lib.Math.min.code 2 (some .int), Cond.methodLink RX0 62 yX0_push, Cond.instanceMethod yX0_push, Cond.selects RX0 yX0_push yX0_push, Cond.code yX0_push cX0_push 7 none]
def wsX0_fillField : List Cond := .code yX0_fillField cX0_fillField 5 none :: ((wsX0_fillField_r1 ++ (wsX0_fillField_r2 ++ wsX0_fillField_r3)) ++ wsX00 ++ wsX20)
def wsX0_reached : List Cond := .code yX0_reached cX0_reached 4 (some .long) :: ([.fieldLink RX0 18 "PlateauBench$Films" "cameBy" "[I"] ++ wsX00)
def wsX0_smallest_r1 : List Cond := [Cond.methodLink RX0 40 yX0_fillField, Cond.instanceMethod yX0_fillField, Cond.selects RX0 yX0_fillField yX0_fillField, Cond.initialized RX0, Cond.code yX0_fillField cX0_fillField 5 none, Cond.fieldLink RX0 15 "PlateauBench$Films" "flow" "[I", Cond.methodLink RX0 44 yX0_search, Cond.instanceMethod yX0_search, Cond.selects RX0 yX0_search yX0_search, Cond.code yX0_search cX0_search 5 (some .int), Cond.fieldLink RX0 18 "PlateauBench$Films" "cameBy" "[I", Cond.fieldLink RX0 9 "PlateauBench$Films" "pinned" "[I", Cond.fieldLink RX0 21 "PlateauBench$Films" "queue" "[I", Cond.methodLink RX0 66 yX0_searchBeside, Cond.instanceMethod yX0_searchBeside, Cond.selects RX0 yX0_searchBeside yX0_searchBeside, Cond.code yX0_searchBeside cX0_searchBeside 10 (some .int), Cond.methodLink RX0 70 yX2_beside, Cond.instanceMethod yX2_beside, Cond.selects RX2 yX2_beside yX2_beside, Cond.initialized RX2, Cond.code yX2_beside cX2_beside 3 (some .int), Cond.fieldLink RX2 18 "PlateauBench$Grid" "beside" "[I", Cond.methodLink RX0 74 yX2_otherEnd]
def wsX0_smallest_r2 : List Cond := [Cond.instanceMethod yX2_otherEnd, Cond.selects RX2 yX2_otherEnd yX2_otherEnd, Cond.code yX2_otherEnd cX2_otherEnd 3 (some .int), Cond.fieldLink RX2 9 "PlateauBench$Grid" "low" "[I", Cond.fieldLink RX2 15 "PlateauBench$Grid" "high" "[I", Cond.methodLink RX0 77 yX0_leftFrom, Cond.instanceMethod yX0_leftFrom, Cond.selects RX0 yX0_leftFrom yX0_leftFrom, Cond.code yX0_leftFrom cX0_leftFrom 4 (some .int), Cond.methodLink RX0 37 yX2_price, Cond.instanceMethod yX2_price, Cond.selects RX2 yX2_price yX2_price, Cond.code yX2_price cX2_price 2 (some .int), Cond.fieldLink RX2 24 "PlateauBench$Grid" "prices" "[I", Cond.methodLink RX0 28 yX2_low, Cond.instanceMethod yX2_low, Cond.selects RX2 yX2_low yX2_low, Cond.code yX2_low cX2_low 2 (some .int), Cond.methodLink RX0 56 yX0_nearestOutside, Cond.instanceMethod yX0_nearestOutside, Cond.selects RX0 yX0_nearestOutside yX0_nearestOutside, Cond.code yX0_nearestOutside cX0_nearestOutside 3 (some .int), Cond.methodLink RX0 59 yX0_mostAlong, Cond.instanceMethod yX0_mostAlong]
def wsX0_smallest_r3 : List Cond := [Cond.selects RX0 yX0_mostAlong yX0_mostAlong, Cond.code yX0_mostAlong cX0_mostAlong 7 (some .int), Cond.constant RX0 81 (1000000), Cond.methodLink RX0 82 Lib.Math.min.name, Cond.static Lib.Math.min.name, Cond.initialized "java/lang/Math", Cond.code Lib.Math.min.name Lib.Math.min.code 2 (some .int), Cond.methodLink RX0 62 yX0_push, Cond.instanceMethod yX0_push, Cond.selects RX0 yX0_push yX0_push, Cond.code yX0_push cX0_push 7 none, Cond.methodLink RX0 48 yX0_reached, Cond.instanceMethod yX0_reached, Cond.selects RX0 yX0_reached yX0_reached, Cond.code yX0_reached cX0_reached 4 (some .long)]
def wsX0_smallest : List Cond := .code yX0_smallest cX0_smallest 2 (some .long) :: ((wsX0_smallest_r1 ++ (wsX0_smallest_r2 ++ wsX0_smallest_r3)) ++ wsX00 ++ wsX20)
def wsX0_greatest_r1 : List Cond := [Cond.constantLong RX0 52 (68719476735), Cond.constantLong RX0 54 (-1), Cond.methodLink RX0 40 yX0_fillField, Cond.instanceMethod yX0_fillField, Cond.selects RX0 yX0_fillField yX0_fillField, Cond.initialized RX0, Cond.code yX0_fillField cX0_fillField 5 none, Cond.fieldLink RX0 15 "PlateauBench$Films" "flow" "[I", Cond.methodLink RX0 44 yX0_search, Cond.instanceMethod yX0_search, Cond.selects RX0 yX0_search yX0_search, Cond.code yX0_search cX0_search 5 (some .int), Cond.fieldLink RX0 18 "PlateauBench$Films" "cameBy" "[I", Cond.fieldLink RX0 9 "PlateauBench$Films" "pinned" "[I", Cond.fieldLink RX0 21 "PlateauBench$Films" "queue" "[I", Cond.methodLink RX0 66 yX0_searchBeside, Cond.instanceMethod yX0_searchBeside, Cond.selects RX0 yX0_searchBeside yX0_searchBeside, Cond.code yX0_searchBeside cX0_searchBeside 10 (some .int), Cond.methodLink RX0 70 yX2_beside, Cond.instanceMethod yX2_beside, Cond.selects RX2 yX2_beside yX2_beside, Cond.initialized RX2, Cond.code yX2_beside cX2_beside 3 (some .int)]
def wsX0_greatest_r2 : List Cond := [Cond.fieldLink RX2 18 "PlateauBench$Grid" "beside" "[I", Cond.methodLink RX0 74 yX2_otherEnd, Cond.instanceMethod yX2_otherEnd, Cond.selects RX2 yX2_otherEnd yX2_otherEnd, Cond.code yX2_otherEnd cX2_otherEnd 3 (some .int), Cond.fieldLink RX2 9 "PlateauBench$Grid" "low" "[I", Cond.fieldLink RX2 15 "PlateauBench$Grid" "high" "[I", Cond.methodLink RX0 77 yX0_leftFrom, Cond.instanceMethod yX0_leftFrom, Cond.selects RX0 yX0_leftFrom yX0_leftFrom, Cond.code yX0_leftFrom cX0_leftFrom 4 (some .int), Cond.methodLink RX0 37 yX2_price, Cond.instanceMethod yX2_price, Cond.selects RX2 yX2_price yX2_price, Cond.code yX2_price cX2_price 2 (some .int), Cond.fieldLink RX2 24 "PlateauBench$Grid" "prices" "[I", Cond.methodLink RX0 28 yX2_low, Cond.instanceMethod yX2_low, Cond.selects RX2 yX2_low yX2_low, Cond.code yX2_low cX2_low 2 (some .int), Cond.methodLink RX0 56 yX0_nearestOutside, Cond.instanceMethod yX0_nearestOutside, Cond.selects RX0 yX0_nearestOutside yX0_nearestOutside, Cond.code yX0_nearestOutside cX0_nearestOutside 3 (some .int)]
def wsX0_greatest_r3 : List Cond := [Cond.methodLink RX0 59 yX0_mostAlong, Cond.instanceMethod yX0_mostAlong, Cond.selects RX0 yX0_mostAlong yX0_mostAlong, Cond.code yX0_mostAlong cX0_mostAlong 7 (some .int), Cond.constant RX0 81 (1000000), Cond.methodLink RX0 82 Lib.Math.min.name, Cond.static Lib.Math.min.name, Cond.initialized "java/lang/Math", Cond.code Lib.Math.min.name Lib.Math.min.code 2 (some .int), Cond.methodLink RX0 62 yX0_push, Cond.instanceMethod yX0_push, Cond.selects RX0 yX0_push yX0_push, Cond.code yX0_push cX0_push 7 none, Cond.methodLink RX0 48 yX0_reached, Cond.instanceMethod yX0_reached, Cond.selects RX0 yX0_reached yX0_reached, Cond.code yX0_reached cX0_reached 4 (some .long)]
def wsX0_greatest : List Cond := .code yX0_greatest cX0_greatest 2 (some .long) :: ((wsX0_greatest_r1 ++ (wsX0_greatest_r2 ++ wsX0_greatest_r3)) ++ wsX00 ++ wsX20)
def wsX0_proved_r1 : List Cond := [Cond.fieldLink RX0 9 "PlateauBench$Films" "pinned" "[I", Cond.fieldLink RX0 15 "PlateauBench$Films" "flow" "[I", Cond.methodLink RX0 40 yX0_fillField, Cond.instanceMethod yX0_fillField, Cond.selects RX0 yX0_fillField yX0_fillField, Cond.initialized RX0, Cond.code yX0_fillField cX0_fillField 5 none, Cond.methodLink RX0 44 yX0_search, Cond.instanceMethod yX0_search, Cond.selects RX0 yX0_search yX0_search, Cond.code yX0_search cX0_search 5 (some .int), Cond.fieldLink RX0 18 "PlateauBench$Films" "cameBy" "[I", Cond.fieldLink RX0 21 "PlateauBench$Films" "queue" "[I", Cond.methodLink RX0 66 yX0_searchBeside, Cond.instanceMethod yX0_searchBeside, Cond.selects RX0 yX0_searchBeside yX0_searchBeside, Cond.code yX0_searchBeside cX0_searchBeside 10 (some .int), Cond.methodLink RX0 70 yX2_beside, Cond.instanceMethod yX2_beside, Cond.selects RX2 yX2_beside yX2_beside, Cond.initialized RX2, Cond.code yX2_beside cX2_beside 3 (some .int), Cond.fieldLink RX2 18 "PlateauBench$Grid" "beside" "[I", Cond.methodLink RX0 74 yX2_otherEnd]
def wsX0_proved_r2 : List Cond := [Cond.instanceMethod yX2_otherEnd, Cond.selects RX2 yX2_otherEnd yX2_otherEnd, Cond.code yX2_otherEnd cX2_otherEnd 3 (some .int), Cond.fieldLink RX2 9 "PlateauBench$Grid" "low" "[I", Cond.fieldLink RX2 15 "PlateauBench$Grid" "high" "[I", Cond.methodLink RX0 77 yX0_leftFrom, Cond.instanceMethod yX0_leftFrom, Cond.selects RX0 yX0_leftFrom yX0_leftFrom, Cond.code yX0_leftFrom cX0_leftFrom 4 (some .int), Cond.methodLink RX0 37 yX2_price, Cond.instanceMethod yX2_price, Cond.selects RX2 yX2_price yX2_price, Cond.code yX2_price cX2_price 2 (some .int), Cond.fieldLink RX2 24 "PlateauBench$Grid" "prices" "[I", Cond.methodLink RX0 28 yX2_low, Cond.instanceMethod yX2_low, Cond.selects RX2 yX2_low yX2_low, Cond.code yX2_low cX2_low 2 (some .int), Cond.methodLink RX0 56 yX0_nearestOutside, Cond.instanceMethod yX0_nearestOutside, Cond.selects RX0 yX0_nearestOutside yX0_nearestOutside, Cond.code yX0_nearestOutside cX0_nearestOutside 3 (some .int), Cond.methodLink RX0 59 yX0_mostAlong, Cond.instanceMethod yX0_mostAlong]
def wsX0_proved_r3 : List Cond := [Cond.selects RX0 yX0_mostAlong yX0_mostAlong, Cond.code yX0_mostAlong cX0_mostAlong 7 (some .int), Cond.constant RX0 81 (1000000), Cond.methodLink RX0 82 Lib.Math.min.name, Cond.static Lib.Math.min.name, Cond.initialized "java/lang/Math", Cond.code Lib.Math.min.name Lib.Math.min.code 2 (some .int), Cond.methodLink RX0 62 yX0_push, Cond.instanceMethod yX0_push, Cond.selects RX0 yX0_push yX0_push, Cond.code yX0_push cX0_push 7 none, Cond.methodLink RX0 34 yX2_high, Cond.instanceMethod yX2_high, Cond.selects RX2 yX2_high yX2_high, Cond.code yX2_high cX2_high 2 (some .int)]
def wsX0_proved : List Cond := .code yX0_proved cX0_proved 4 (some .int) :: ((wsX0_proved_r1 ++ (wsX0_proved_r2 ++ wsX0_proved_r3)) ++ wsX00 ++ wsX20)
def wsX1_init : List Cond := .code yX1_init cX1_init 1 none :: ([.methodLink RX1 3 objectInit, .instanceMethod objectInit, .code objectInit ⟨#[0xb1]⟩ 1 none, .arrayClass .int, .fieldLink RX1 9 "PlateauBench$Foam" "owners" "[I", .fieldLink RX1 15 "PlateauBench$Foam" "ahead" "[I", .arrayClass .boolean, .fieldLink RX1 18 "PlateauBench$Foam" "held" "[Z", .fieldLink RX1 22 "PlateauBench$Foam" "seen" "[Z", .fieldLink RX1 25 "PlateauBench$Foam" "queue" "[I", .fieldLink RX1 28 "PlateauBench$Foam" "work" "I", .fieldLink RX1 32 "PlateauBench$Foam" "lost" "I"] ++ wsX10)
def wsX1_ownerOf : List Cond := .code yX1_ownerOf cX1_ownerOf 2 (some .int) :: ([.fieldLink RX1 9 "PlateauBench$Foam" "owners" "[I"] ++ wsX10)
def wsX1_isHeld : List Cond := .code yX1_isHeld cX1_isHeld 2 (some .boolean) :: ([.fieldLink RX1 18 "PlateauBench$Foam" "held" "[Z"] ++ wsX10)
def wsX1_workDone : List Cond := .code yX1_workDone cX1_workDone 1 (some .int) :: ([.fieldLink RX1 28 "PlateauBench$Foam" "work" "I"] ++ wsX10)
def wsX1_energyLost : List Cond := .code yX1_energyLost cX1_energyLost 1 (some .int) :: ([.fieldLink RX1 32 "PlateauBench$Foam" "lost" "I"] ++ wsX10)
def wsX1_addWork : List Cond := .code yX1_addWork cX1_addWork 2 none :: ([.fieldLink RX1 28 "PlateauBench$Foam" "work" "I"] ++ wsX10)
def wsX1_energyOf : List Cond := .code yX1_energyOf cX1_energyOf 4 (some .int) :: ([.methodLink RX1 39 yX2_low, .instanceMethod yX2_low, .selects RX2 yX2_low yX2_low, .initialized RX2, .code yX2_low cX2_low 2 (some .int), .fieldLink RX2 9 "PlateauBench$Grid" "low" "[I", .methodLink RX1 45 yX2_high, .instanceMethod yX2_high, .selects RX2 yX2_high yX2_high, .code yX2_high cX2_high 2 (some .int), .fieldLink RX2 15 "PlateauBench$Grid" "high" "[I", .methodLink RX1 48 yX2_price, .instanceMethod yX2_price, .selects RX2 yX2_price yX2_price, .code yX2_price cX2_price 2 (some .int), .fieldLink RX2 24 "PlateauBench$Grid" "prices" "[I"] ++ wsX20)
def wsX1_energyNow : List Cond := .code yX1_energyNow cX1_energyNow 2 (some .int) :: ([.fieldLink RX1 9 "PlateauBench$Foam" "owners" "[I", .methodLink RX1 35 yX1_energyOf, .static yX1_energyOf, .initialized RX1, .code yX1_energyOf cX1_energyOf 4 (some .int), .methodLink RX1 39 yX2_low, .instanceMethod yX2_low, .selects RX2 yX2_low yX2_low, .initialized RX2, .code yX2_low cX2_low 2 (some .int), .fieldLink RX2 9 "PlateauBench$Grid" "low" "[I", .methodLink RX1 45 yX2_high, .instanceMethod yX2_high, .selects RX2 yX2_high yX2_high, .code yX2_high cX2_high 2 (some .int), .fieldLink RX2 15 "PlateauBench$Grid" "high" "[I", .methodLink RX1 48 yX2_price, .instanceMethod yX2_price, .selects RX2 yX2_price yX2_price, .code yX2_price cX2_price 2 (some .int), .fieldLink RX2 24 "PlateauBench$Grid" "prices" "[I"] ++ wsX10 ++ wsX20)
def wsX1_change_r1 : List Cond := [Cond.fieldLink RX1 9 "PlateauBench$Foam" "owners" "[I", Cond.methodLink RX1 51 yX1_energyNow, Cond.instanceMethod yX1_energyNow, Cond.selects RX1 yX1_energyNow yX1_energyNow, Cond.initialized RX1, Cond.code yX1_energyNow cX1_energyNow 2 (some .int), Cond.methodLink RX1 35 yX1_energyOf, Cond.static yX1_energyOf, Cond.code yX1_energyOf cX1_energyOf 4 (some .int), Cond.methodLink RX1 39 yX2_low, Cond.instanceMethod yX2_low, Cond.selects RX2 yX2_low yX2_low, Cond.initialized RX2, Cond.code yX2_low cX2_low 2 (some .int), Cond.fieldLink RX2 9 "PlateauBench$Grid" "low" "[I", Cond.methodLink RX1 45 yX2_high, Cond.instanceMethod yX2_high, Cond.selects RX2 yX2_high yX2_high, Cond.code yX2_high cX2_high 2 (some .int), Cond.fieldLink RX2 15 "PlateauBench$Grid" "high" "[I", Cond.methodLink RX1 48 yX2_price, Cond.instanceMethod yX2_price, Cond.selects RX2 yX2_price yX2_price, Cond.code yX2_price cX2_price 2 (some .int)]
def wsX1_change_r2 : List Cond := [Cond.fieldLink RX2 24 "PlateauBench$Grid" "prices" "[I", Cond.methodLink RX1 55 yX1_addWork, Cond.instanceMethod yX1_addWork, Cond.selects RX1 yX1_addWork yX1_addWork, Cond.code yX1_addWork cX1_addWork 2 none, Cond.fieldLink RX1 28 "PlateauBench$Foam" "work" "I"]
def wsX1_change : List Cond := .code yX1_change cX1_change 6 (some .int) :: ((wsX1_change_r1 ++ wsX1_change_r2) ++ wsX10 ++ wsX20)
def wsX1_changeHeld : List Cond := .code yX1_changeHeld cX1_changeHeld 4 (some .boolean) :: ([.fieldLink RX1 18 "PlateauBench$Foam" "held" "[Z"] ++ wsX10)
def wsX1_wallsWith : List Cond := .code yX1_wallsWith cX1_wallsWith 7 (some .int) :: ([.methodLink RX1 79 yX2_beside, .instanceMethod yX2_beside, .selects RX2 yX2_beside yX2_beside, .initialized RX2, .code yX2_beside cX2_beside 3 (some .int), .fieldLink RX2 18 "PlateauBench$Grid" "beside" "[I", .methodLink RX1 83 yX2_otherEnd, .instanceMethod yX2_otherEnd, .selects RX2 yX2_otherEnd yX2_otherEnd, .code yX2_otherEnd cX2_otherEnd 3 (some .int), .fieldLink RX2 9 "PlateauBench$Grid" "low" "[I", .fieldLink RX2 15 "PlateauBench$Grid" "high" "[I", .methodLink RX1 48 yX2_price, .instanceMethod yX2_price, .selects RX2 yX2_price yX2_price, .code yX2_price cX2_price 2 (some .int), .fieldLink RX2 24 "PlateauBench$Grid" "prices" "[I"] ++ wsX20)
def wsX1_bestOwner : List Cond := .code yX1_bestOwner cX1_bestOwner 12 (some .int) :: ([.fieldLink RX1 18 "PlateauBench$Foam" "held" "[Z", .methodLink RX1 75 yX1_wallsWith, .static yX1_wallsWith, .initialized RX1, .code yX1_wallsWith cX1_wallsWith 7 (some .int), .methodLink RX1 79 yX2_beside, .instanceMethod yX2_beside, .selects RX2 yX2_beside yX2_beside, .initialized RX2, .code yX2_beside cX2_beside 3 (some .int), .fieldLink RX2 18 "PlateauBench$Grid" "beside" "[I", .methodLink RX1 83 yX2_otherEnd, .instanceMethod yX2_otherEnd, .selects RX2 yX2_otherEnd yX2_otherEnd, .code yX2_otherEnd cX2_otherEnd 3 (some .int), .fieldLink RX2 9 "PlateauBench$Grid" "low" "[I", .fieldLink RX2 15 "PlateauBench$Grid" "high" "[I", .methodLink RX1 48 yX2_price, .instanceMethod yX2_price, .selects RX2 yX2_price yX2_price, .code yX2_price cX2_price 2 (some .int), .fieldLink RX2 24 "PlateauBench$Grid" "prices" "[I"] ++ wsX10 ++ wsX20)
def wsX1_breath_r1 : List Cond := [Cond.fieldLink RX1 18 "PlateauBench$Foam" "held" "[Z", Cond.methodLink RX1 71 yX1_bestOwner, Cond.instanceMethod yX1_bestOwner, Cond.selects RX1 yX1_bestOwner yX1_bestOwner, Cond.initialized RX1, Cond.code yX1_bestOwner cX1_bestOwner 12 (some .int), Cond.methodLink RX1 75 yX1_wallsWith, Cond.static yX1_wallsWith, Cond.code yX1_wallsWith cX1_wallsWith 7 (some .int), Cond.methodLink RX1 79 yX2_beside, Cond.instanceMethod yX2_beside, Cond.selects RX2 yX2_beside yX2_beside, Cond.initialized RX2, Cond.code yX2_beside cX2_beside 3 (some .int), Cond.fieldLink RX2 18 "PlateauBench$Grid" "beside" "[I", Cond.methodLink RX1 83 yX2_otherEnd, Cond.instanceMethod yX2_otherEnd, Cond.selects RX2 yX2_otherEnd yX2_otherEnd, Cond.code yX2_otherEnd cX2_otherEnd 3 (some .int), Cond.fieldLink RX2 9 "PlateauBench$Grid" "low" "[I", Cond.fieldLink RX2 15 "PlateauBench$Grid" "high" "[I", Cond.methodLink RX1 48 yX2_price, Cond.instanceMethod yX2_price, Cond.selects RX2 yX2_price yX2_price]
def wsX1_breath_r2 : List Cond := [Cond.code yX2_price cX2_price 2 (some .int), Cond.fieldLink RX2 24 "PlateauBench$Grid" "prices" "[I"]
def wsX1_breath : List Cond := .code yX1_breath cX1_breath 6 (some .int) :: ((wsX1_breath_r1 ++ wsX1_breath_r2) ++ wsX10 ++ wsX20)
def wsX1_letBreathe_r1 : List Cond := [Cond.fieldLink RX1 9 "PlateauBench$Foam" "owners" "[I", Cond.fieldLink RX1 32 "PlateauBench$Foam" "lost" "I", Cond.methodLink RX1 51 yX1_energyNow, Cond.instanceMethod yX1_energyNow, Cond.selects RX1 yX1_energyNow yX1_energyNow, Cond.initialized RX1, Cond.code yX1_energyNow cX1_energyNow 2 (some .int), Cond.methodLink RX1 35 yX1_energyOf, Cond.static yX1_energyOf, Cond.code yX1_energyOf cX1_energyOf 4 (some .int), Cond.methodLink RX1 39 yX2_low, Cond.instanceMethod yX2_low, Cond.selects RX2 yX2_low yX2_low, Cond.initialized RX2, Cond.code yX2_low cX2_low 2 (some .int), Cond.fieldLink RX2 9 "PlateauBench$Grid" "low" "[I", Cond.methodLink RX1 45 yX2_high, Cond.instanceMethod yX2_high, Cond.selects RX2 yX2_high yX2_high, Cond.code yX2_high cX2_high 2 (some .int), Cond.fieldLink RX2 15 "PlateauBench$Grid" "high" "[I", Cond.methodLink RX1 48 yX2_price, Cond.instanceMethod yX2_price, Cond.selects RX2 yX2_price yX2_price]
def wsX1_letBreathe_r2 : List Cond := [Cond.code yX2_price cX2_price 2 (some .int), Cond.fieldLink RX2 24 "PlateauBench$Grid" "prices" "[I", Cond.methodLink RX1 59 yX1_breath, Cond.instanceMethod yX1_breath, Cond.selects RX1 yX1_breath yX1_breath, Cond.code yX1_breath cX1_breath 6 (some .int), Cond.fieldLink RX1 18 "PlateauBench$Foam" "held" "[Z", Cond.methodLink RX1 71 yX1_bestOwner, Cond.instanceMethod yX1_bestOwner, Cond.selects RX1 yX1_bestOwner yX1_bestOwner, Cond.code yX1_bestOwner cX1_bestOwner 12 (some .int), Cond.methodLink RX1 75 yX1_wallsWith, Cond.static yX1_wallsWith, Cond.code yX1_wallsWith cX1_wallsWith 7 (some .int), Cond.methodLink RX1 79 yX2_beside, Cond.instanceMethod yX2_beside, Cond.selects RX2 yX2_beside yX2_beside, Cond.code yX2_beside cX2_beside 3 (some .int), Cond.fieldLink RX2 18 "PlateauBench$Grid" "beside" "[I", Cond.methodLink RX1 83 yX2_otherEnd, Cond.instanceMethod yX2_otherEnd, Cond.selects RX2 yX2_otherEnd yX2_otherEnd, Cond.code yX2_otherEnd cX2_otherEnd 3 (some .int)]
def wsX1_letBreathe : List Cond := .code yX1_letBreathe cX1_letBreathe 8 (some .int) :: ((wsX1_letBreathe_r1 ++ wsX1_letBreathe_r2) ++ wsX10 ++ wsX20)
def wsX1_breathsToRest_r1 : List Cond := [Cond.fieldLink RX1 9 "PlateauBench$Foam" "owners" "[I", Cond.fieldLink RX1 15 "PlateauBench$Foam" "ahead" "[I", Cond.methodLink RX1 62 arraycopyName, Cond.native arraycopyName, Cond.static arraycopyName, Cond.initialized "java/lang/System", Cond.methodLink RX1 59 yX1_breath, Cond.instanceMethod yX1_breath, Cond.selects RX1 yX1_breath yX1_breath, Cond.initialized RX1, Cond.code yX1_breath cX1_breath 6 (some .int), Cond.fieldLink RX1 18 "PlateauBench$Foam" "held" "[Z", Cond.methodLink RX1 71 yX1_bestOwner, Cond.instanceMethod yX1_bestOwner, Cond.selects RX1 yX1_bestOwner yX1_bestOwner, Cond.code yX1_bestOwner cX1_bestOwner 12 (some .int), Cond.methodLink RX1 75 yX1_wallsWith, Cond.static yX1_wallsWith, Cond.code yX1_wallsWith cX1_wallsWith 7 (some .int), Cond.methodLink RX1 79 yX2_beside, Cond.instanceMethod yX2_beside, Cond.selects RX2 yX2_beside yX2_beside, Cond.initialized RX2, Cond.code yX2_beside cX2_beside 3 (some .int)]
def wsX1_breathsToRest_r2 : List Cond := [Cond.fieldLink RX2 18 "PlateauBench$Grid" "beside" "[I", Cond.methodLink RX1 83 yX2_otherEnd, Cond.instanceMethod yX2_otherEnd, Cond.selects RX2 yX2_otherEnd yX2_otherEnd, Cond.code yX2_otherEnd cX2_otherEnd 3 (some .int), Cond.fieldLink RX2 9 "PlateauBench$Grid" "low" "[I", Cond.fieldLink RX2 15 "PlateauBench$Grid" "high" "[I", Cond.methodLink RX1 48 yX2_price, Cond.instanceMethod yX2_price, Cond.selects RX2 yX2_price yX2_price, Cond.code yX2_price cX2_price 2 (some .int), Cond.fieldLink RX2 24 "PlateauBench$Grid" "prices" "[I"]
def wsX1_breathsToRest : List Cond := .code yX1_breathsToRest cX1_breathsToRest 3 (some .int) :: ((wsX1_breathsToRest_r1 ++ wsX1_breathsToRest_r2) ++ wsX10 ++ wsX20)
def wsX1_energyAtRest_r1 : List Cond := [Cond.fieldLink RX1 15 "PlateauBench$Foam" "ahead" "[I", Cond.methodLink RX1 68 yX1_breathsToRest, Cond.instanceMethod yX1_breathsToRest, Cond.selects RX1 yX1_breathsToRest yX1_breathsToRest, Cond.initialized RX1, Cond.code yX1_breathsToRest cX1_breathsToRest 3 (some .int), Cond.fieldLink RX1 9 "PlateauBench$Foam" "owners" "[I", Cond.methodLink RX1 62 arraycopyName, Cond.native arraycopyName, Cond.static arraycopyName, Cond.initialized "java/lang/System", Cond.methodLink RX1 59 yX1_breath, Cond.instanceMethod yX1_breath, Cond.selects RX1 yX1_breath yX1_breath, Cond.code yX1_breath cX1_breath 6 (some .int), Cond.fieldLink RX1 18 "PlateauBench$Foam" "held" "[Z", Cond.methodLink RX1 71 yX1_bestOwner, Cond.instanceMethod yX1_bestOwner, Cond.selects RX1 yX1_bestOwner yX1_bestOwner, Cond.code yX1_bestOwner cX1_bestOwner 12 (some .int), Cond.methodLink RX1 75 yX1_wallsWith, Cond.static yX1_wallsWith, Cond.code yX1_wallsWith cX1_wallsWith 7 (some .int), Cond.methodLink RX1 79 yX2_beside]
def wsX1_energyAtRest_r2 : List Cond := [Cond.instanceMethod yX2_beside, Cond.selects RX2 yX2_beside yX2_beside, Cond.initialized RX2, Cond.code yX2_beside cX2_beside 3 (some .int), Cond.fieldLink RX2 18 "PlateauBench$Grid" "beside" "[I", Cond.methodLink RX1 83 yX2_otherEnd, Cond.instanceMethod yX2_otherEnd, Cond.selects RX2 yX2_otherEnd yX2_otherEnd, Cond.code yX2_otherEnd cX2_otherEnd 3 (some .int), Cond.fieldLink RX2 9 "PlateauBench$Grid" "low" "[I", Cond.fieldLink RX2 15 "PlateauBench$Grid" "high" "[I", Cond.methodLink RX1 48 yX2_price, Cond.instanceMethod yX2_price, Cond.selects RX2 yX2_price yX2_price, Cond.code yX2_price cX2_price 2 (some .int), Cond.fieldLink RX2 24 "PlateauBench$Grid" "prices" "[I", Cond.methodLink RX1 35 yX1_energyOf, Cond.static yX1_energyOf, Cond.code yX1_energyOf cX1_energyOf 4 (some .int), Cond.methodLink RX1 39 yX2_low, Cond.instanceMethod yX2_low, Cond.selects RX2 yX2_low yX2_low, Cond.code yX2_low cX2_low 2 (some .int), Cond.methodLink RX1 45 yX2_high]
def wsX1_energyAtRest_r3 : List Cond := [Cond.instanceMethod yX2_high, Cond.selects RX2 yX2_high yX2_high, Cond.code yX2_high cX2_high 2 (some .int)]
def wsX1_energyAtRest : List Cond := .code yX1_energyAtRest cX1_energyAtRest 2 (some .int) :: ((wsX1_energyAtRest_r1 ++ (wsX1_energyAtRest_r2 ++ wsX1_energyAtRest_r3)) ++ wsX10 ++ wsX20)
def wsX1_size : List Cond := .code yX1_size cX1_size 4 (some .int) :: ([.fieldLink RX1 9 "PlateauBench$Foam" "owners" "[I"] ++ wsX10)
def wsX1_seePiece : List Cond := .code yX1_seePiece cX1_seePiece 9 none :: ([.fieldLink RX1 22 "PlateauBench$Foam" "seen" "[Z", .fieldLink RX1 25 "PlateauBench$Foam" "queue" "[I", .fieldLink RX1 9 "PlateauBench$Foam" "owners" "[I", .methodLink RX1 79 yX2_beside, .instanceMethod yX2_beside, .selects RX2 yX2_beside yX2_beside, .initialized RX2, .code yX2_beside cX2_beside 3 (some .int), .fieldLink RX2 18 "PlateauBench$Grid" "beside" "[I", .methodLink RX1 83 yX2_otherEnd, .instanceMethod yX2_otherEnd, .selects RX2 yX2_otherEnd yX2_otherEnd, .code yX2_otherEnd cX2_otherEnd 3 (some .int), .fieldLink RX2 9 "PlateauBench$Grid" "low" "[I", .fieldLink RX2 15 "PlateauBench$Grid" "high" "[I"] ++ wsX10 ++ wsX20)
def wsX1_pieces : List Cond := .code yX1_pieces cX1_pieces 5 (some .int) :: ([.fieldLink RX1 22 "PlateauBench$Foam" "seen" "[Z", .fieldLink RX1 9 "PlateauBench$Foam" "owners" "[I", .methodLink RX1 86 yX1_seePiece, .instanceMethod yX1_seePiece, .selects RX1 yX1_seePiece yX1_seePiece, .initialized RX1, .code yX1_seePiece cX1_seePiece 9 none, .fieldLink RX1 25 "PlateauBench$Foam" "queue" "[I", .methodLink RX1 79 yX2_beside, .instanceMethod yX2_beside, .selects RX2 yX2_beside yX2_beside, .initialized RX2, .code yX2_beside cX2_beside 3 (some .int), .fieldLink RX2 18 "PlateauBench$Grid" "beside" "[I", .methodLink RX1 83 yX2_otherEnd, .instanceMethod yX2_otherEnd, .selects RX2 yX2_otherEnd yX2_otherEnd, .code yX2_otherEnd cX2_otherEnd 3 (some .int), .fieldLink RX2 9 "PlateauBench$Grid" "low" "[I", .fieldLink RX2 15 "PlateauBench$Grid" "high" "[I"] ++ wsX10 ++ wsX20)
def wsX1_isBetween : List Cond := .code yX1_isBetween cX1_isBetween 7 (some .boolean) :: ([.fieldLink RX1 9 "PlateauBench$Foam" "owners" "[I", .methodLink RX1 39 yX2_low, .instanceMethod yX2_low, .selects RX2 yX2_low yX2_low, .initialized RX2, .code yX2_low cX2_low 2 (some .int), .fieldLink RX2 9 "PlateauBench$Grid" "low" "[I", .methodLink RX1 45 yX2_high, .instanceMethod yX2_high, .selects RX2 yX2_high yX2_high, .code yX2_high cX2_high 2 (some .int), .fieldLink RX2 15 "PlateauBench$Grid" "high" "[I"] ++ wsX10 ++ wsX20)
def wsX1_wallsBetween : List Cond := .code yX1_wallsBetween cX1_wallsBetween 6 (some .int) :: ([.methodLink RX1 94 yX1_isBetween, .instanceMethod yX1_isBetween, .selects RX1 yX1_isBetween yX1_isBetween, .initialized RX1, .code yX1_isBetween cX1_isBetween 7 (some .boolean), .fieldLink RX1 9 "PlateauBench$Foam" "owners" "[I", .methodLink RX1 39 yX2_low, .instanceMethod yX2_low, .selects RX2 yX2_low yX2_low, .initialized RX2, .code yX2_low cX2_low 2 (some .int), .fieldLink RX2 9 "PlateauBench$Grid" "low" "[I", .methodLink RX1 45 yX2_high, .instanceMethod yX2_high, .selects RX2 yX2_high yX2_high, .code yX2_high cX2_high 2 (some .int), .fieldLink RX2 15 "PlateauBench$Grid" "high" "[I", .methodLink RX1 48 yX2_price, .instanceMethod yX2_price, .selects RX2 yX2_price yX2_price, .code yX2_price cX2_price 2 (some .int), .fieldLink RX2 24 "PlateauBench$Grid" "prices" "[I"] ++ wsX10 ++ wsX20)
def wsX1_wallsAround_r1 : List Cond := [Cond.methodLink RX1 90 yX1_wallsBetween, Cond.instanceMethod yX1_wallsBetween, Cond.selects RX1 yX1_wallsBetween yX1_wallsBetween, Cond.initialized RX1, Cond.code yX1_wallsBetween cX1_wallsBetween 6 (some .int), Cond.methodLink RX1 94 yX1_isBetween, Cond.instanceMethod yX1_isBetween, Cond.selects RX1 yX1_isBetween yX1_isBetween, Cond.code yX1_isBetween cX1_isBetween 7 (some .boolean), Cond.fieldLink RX1 9 "PlateauBench$Foam" "owners" "[I", Cond.methodLink RX1 39 yX2_low, Cond.instanceMethod yX2_low, Cond.selects RX2 yX2_low yX2_low, Cond.initialized RX2, Cond.code yX2_low cX2_low 2 (some .int), Cond.fieldLink RX2 9 "PlateauBench$Grid" "low" "[I", Cond.methodLink RX1 45 yX2_high, Cond.instanceMethod yX2_high, Cond.selects RX2 yX2_high yX2_high, Cond.code yX2_high cX2_high 2 (some .int), Cond.fieldLink RX2 15 "PlateauBench$Grid" "high" "[I", Cond.methodLink RX1 48 yX2_price, Cond.instanceMethod yX2_price, Cond.selects RX2 yX2_price yX2_price]
def wsX1_wallsAround_r2 : List Cond := [Cond.code yX2_price cX2_price 2 (some .int), Cond.fieldLink RX2 24 "PlateauBench$Grid" "prices" "[I"]
def wsX1_wallsAround : List Cond := .code yX1_wallsAround cX1_wallsAround 5 (some .int) :: ((wsX1_wallsAround_r1 ++ wsX1_wallsAround_r2) ++ wsX10 ++ wsX20)
def wsJ6_bitCount_0f7a4 : List Cond := .code yJ6_bitCount_0f7a4 cJ6_bitCount_0f7a4 1 (some .int) :: ([.constant RJ6 265 (1431655765), .constant RJ6 266 (858993459), .constant RJ6 267 (252645135)])
def wsX1_neighbours : List Cond := .code yX1_neighbours cX1_neighbours 7 (some .int) :: ([.fieldLink RX1 9 "PlateauBench$Foam" "owners" "[I", .methodLink RX1 39 yX2_low, .instanceMethod yX2_low, .selects RX2 yX2_low yX2_low, .initialized RX2, .code yX2_low cX2_low 2 (some .int), .fieldLink RX2 9 "PlateauBench$Grid" "low" "[I", .methodLink RX1 45 yX2_high, .instanceMethod yX2_high, .selects RX2 yX2_high yX2_high, .code yX2_high cX2_high 2 (some .int), .fieldLink RX2 15 "PlateauBench$Grid" "high" "[I", .methodLink RX1 98 yJ6_bitCount_0f7a4, .static yJ6_bitCount_0f7a4, .initialized RJ6, .code yJ6_bitCount_0f7a4 cJ6_bitCount_0f7a4 1 (some .int), .constant RJ6 265 (1431655765), .constant RJ6 266 (858993459), .constant RJ6 267 (252645135)] ++ wsX10 ++ wsX20)
def wsX1_kindsAt : List Cond := .code yX1_kindsAt cX1_kindsAt 4 (some .int) :: ([.fieldLink RX1 9 "PlateauBench$Foam" "owners" "[I", .methodLink RX1 98 yJ6_bitCount_0f7a4, .static yJ6_bitCount_0f7a4, .initialized RJ6, .code yJ6_bitCount_0f7a4 cJ6_bitCount_0f7a4 1 (some .int), .constant RJ6 265 (1431655765), .constant RJ6 266 (858993459), .constant RJ6 267 (252645135)] ++ wsX10)
def wsX1_cornersOf : List Cond := .code yX1_cornersOf cX1_cornersOf 5 (some .int) :: ([.methodLink RX1 103 yX1_kindsAt, .instanceMethod yX1_kindsAt, .selects RX1 yX1_kindsAt yX1_kindsAt, .initialized RX1, .code yX1_kindsAt cX1_kindsAt 4 (some .int), .fieldLink RX1 9 "PlateauBench$Foam" "owners" "[I", .methodLink RX1 98 yJ6_bitCount_0f7a4, .static yJ6_bitCount_0f7a4, .initialized RJ6, .code yJ6_bitCount_0f7a4 cJ6_bitCount_0f7a4 1 (some .int), .constant RJ6 265 (1431655765), .constant RJ6 266 (858993459), .constant RJ6 267 (252645135)] ++ wsX10)
def wsX2_init : List Cond := .code yX2_init cX2_init 5 none :: ([.methodLink RX2 3 objectInit, .instanceMethod objectInit, .code objectInit ⟨#[0xb1]⟩ 1 none, .arrayClass .int, .fieldLink RX2 9 "PlateauBench$Grid" "low" "[I", .fieldLink RX2 15 "PlateauBench$Grid" "high" "[I", .fieldLink RX2 18 "PlateauBench$Grid" "beside" "[I", .fieldLink RX2 21 "PlateauBench$Grid" "laid" "[I", .fieldLink RX2 24 "PlateauBench$Grid" "prices" "[I", .fieldLink RX2 27 "PlateauBench$Grid" "across" "I", .fieldLink RX2 31 "PlateauBench$Grid" "down" "I"] ++ wsX20)
def wsX2_changeDirection : List Cond := .code yX2_changeDirection cX2_changeDirection 5 (some .int) :: ([.fieldLink RX2 27 "PlateauBench$Grid" "across" "I", .fieldLink RX2 31 "PlateauBench$Grid" "down" "I", .fieldLink RX2 24 "PlateauBench$Grid" "prices" "[I", .fieldLink RX2 21 "PlateauBench$Grid" "laid" "[I"] ++ wsX20)
def wsX2_changeLaid : List Cond := .code yX2_changeLaid cX2_changeLaid 4 (some .int) :: ([.fieldLink RX2 21 "PlateauBench$Grid" "laid" "[I", .fieldLink RX2 24 "PlateauBench$Grid" "prices" "[I", .fieldLink RX2 27 "PlateauBench$Grid" "across" "I", .fieldLink RX2 31 "PlateauBench$Grid" "down" "I"] ++ wsX20)
def wsX2_lower : List Cond := .code yX2_lower cX2_lower 7 (some .boolean) :: ([.fieldLink RX2 9 "PlateauBench$Grid" "low" "[I", .fieldLink RX2 15 "PlateauBench$Grid" "high" "[I", .fieldLink RX2 24 "PlateauBench$Grid" "prices" "[I"] ++ wsX20)
def wsX2_settle : List Cond := .code yX2_settle cX2_settle 6 none :: ([.methodLink RX2 39 yX2_lower, .instanceMethod yX2_lower, .selects RX2 yX2_lower yX2_lower, .initialized RX2, .code yX2_lower cX2_lower 7 (some .boolean), .fieldLink RX2 9 "PlateauBench$Grid" "low" "[I", .fieldLink RX2 15 "PlateauBench$Grid" "high" "[I", .fieldLink RX2 24 "PlateauBench$Grid" "prices" "[I"] ++ wsX20)
def wsX2_measure : List Cond := .code yX2_measure cX2_measure 5 none :: ([.constant RX2 34 (1000000), .methodLink RX2 35 yX2_settle, .instanceMethod yX2_settle, .selects RX2 yX2_settle yX2_settle, .initialized RX2, .code yX2_settle cX2_settle 6 none, .methodLink RX2 39 yX2_lower, .instanceMethod yX2_lower, .selects RX2 yX2_lower yX2_lower, .code yX2_lower cX2_lower 7 (some .boolean), .fieldLink RX2 9 "PlateauBench$Grid" "low" "[I", .fieldLink RX2 15 "PlateauBench$Grid" "high" "[I", .fieldLink RX2 24 "PlateauBench$Grid" "prices" "[I"] ++ wsX20)
def wsX3_init : List Cond := .code yX3_init cX3_init 1 none :: ([.methodLink RX3 3 objectInit, .instanceMethod objectInit, .code objectInit ⟨#[0xb1]⟩ 1 none, .arrayClass .int, .fieldLink RX3 9 "PlateauBench$Nets" "nodes" "[I", .fieldLink RX3 15 "PlateauBench$Nets" "count" "I", .fieldLink RX3 19 "PlateauBench$Nets" "joined" "[I", .fieldLink RX3 22 "PlateauBench$Nets" "isJoined" "Z", .fieldLink RX3 26 "PlateauBench$Nets" "wayTo" "[I", .fieldLink RX3 29 "PlateauBench$Nets" "row" "[I", .fieldLink RX3 32 "PlateauBench$Nets" "reach" "[I"] ++ wsX30)
def wsX3_size : List Cond := .code yX3_size cX3_size 1 (some .int) :: ([.fieldLink RX3 15 "PlateauBench$Nets" "count" "I"] ++ wsX30)
def wsX3_isFull : List Cond := .code yX3_isFull cX3_isFull 1 (some .boolean) :: ([.fieldLink RX3 15 "PlateauBench$Nets" "count" "I"] ++ wsX30)
def wsX3_nodeOf : List Cond := .code yX3_nodeOf cX3_nodeOf 2 (some .int) :: ([.fieldLink RX3 9 "PlateauBench$Nets" "nodes" "[I"] ++ wsX30)
def wsX3_hasTownAt : List Cond := .code yX3_hasTownAt cX3_hasTownAt 3 (some .boolean) :: ([.fieldLink RX3 15 "PlateauBench$Nets" "count" "I", .fieldLink RX3 9 "PlateauBench$Nets" "nodes" "[I"] ++ wsX30)
def wsX3_forget : List Cond := .code yX3_forget cX3_forget 1 none :: ([.fieldLink RX3 22 "PlateauBench$Nets" "isJoined" "Z"] ++ wsX30)
def wsX3_add : List Cond := .code yX3_add cX3_add 2 (some .int) :: ([.fieldLink RX3 9 "PlateauBench$Nets" "nodes" "[I", .fieldLink RX3 15 "PlateauBench$Nets" "count" "I", .methodLink RX3 35 yX3_forget, .instanceMethod yX3_forget, .selects RX3 yX3_forget yX3_forget, .initialized RX3, .code yX3_forget cX3_forget 1 none, .fieldLink RX3 22 "PlateauBench$Nets" "isJoined" "Z"] ++ wsX30)
def wsX3_remove : List Cond := .code yX3_remove cX3_remove 4 (some .int) :: ([.fieldLink RX3 9 "PlateauBench$Nets" "nodes" "[I", .fieldLink RX3 15 "PlateauBench$Nets" "count" "I", .methodLink RX3 35 yX3_forget, .instanceMethod yX3_forget, .selects RX3 yX3_forget yX3_forget, .initialized RX3, .code yX3_forget cX3_forget 1 none, .fieldLink RX3 22 "PlateauBench$Nets" "isJoined" "Z"] ++ wsX30)
def wsX3_allTowns : List Cond := .code yX3_allTowns cX3_allTowns 1 (some .int) :: ([.fieldLink RX3 15 "PlateauBench$Nets" "count" "I"] ++ wsX30)
def wsX3_joinParts : List Cond := .code yX3_joinParts cX3_joinParts 7 none :: ([.fieldLink RX3 19 "PlateauBench$Nets" "joined" "[I", .constant RX3 75 (1000000), .methodLink RX3 76 Lib.Math.min.name, .static Lib.Math.min.name, .initialized "java/lang/Math", .code Lib.Math.min.name Lib.Math.min.code 2 (some .int)] ++ wsX30)
def wsX3_joinAll_r1 : List Cond := [Cond.fieldLink RX3 22 "PlateauBench$Nets" "isJoined" "Z", Cond.fieldLink RX3 15 "PlateauBench$Nets" "count" "I", Cond.fieldLink RX3 19 "PlateauBench$Nets" "joined" "[I", Cond.fieldLink RX3 9 "PlateauBench$Nets" "nodes" "[I", Cond.methodLink RX3 58 yX2_measure, Cond.instanceMethod yX2_measure, Cond.selects RX2 yX2_measure yX2_measure, Cond.initialized RX2, Cond.code yX2_measure cX2_measure 5 none, Cond.constant RX2 34 (1000000), Cond.methodLink RX2 35 yX2_settle, Cond.instanceMethod yX2_settle, Cond.selects RX2 yX2_settle yX2_settle, Cond.code yX2_settle cX2_settle 6 none, Cond.methodLink RX2 39 yX2_lower, Cond.instanceMethod yX2_lower, Cond.selects RX2 yX2_lower yX2_lower, Cond.code yX2_lower cX2_lower 7 (some .boolean), Cond.fieldLink RX2 9 "PlateauBench$Grid" "low" "[I", Cond.fieldLink RX2 15 "PlateauBench$Grid" "high" "[I", Cond.fieldLink RX2 24 "PlateauBench$Grid" "prices" "[I", Cond.methodLink RX3 42 yX3_allTowns, Cond.instanceMethod yX3_allTowns, Cond.selects RX3 yX3_allTowns yX3_allTowns]
def wsX3_joinAll_r2 : List Cond := [Cond.initialized RX3, Cond.code yX3_allTowns cX3_allTowns 1 (some .int), Cond.methodLink RX3 62 yJ6_bitCount_0f7a4, Cond.static yJ6_bitCount_0f7a4, Cond.initialized RJ6, Cond.code yJ6_bitCount_0f7a4 cJ6_bitCount_0f7a4 1 (some .int), Cond.constant RJ6 265 (1431655765), Cond.constant RJ6 266 (858993459), Cond.constant RJ6 267 (252645135), Cond.methodLink RX3 67 yX3_joinParts, Cond.instanceMethod yX3_joinParts, Cond.selects RX3 yX3_joinParts yX3_joinParts, Cond.code yX3_joinParts cX3_joinParts 7 none, Cond.constant RX3 75 (1000000), Cond.methodLink RX3 76 Lib.Math.min.name, Cond.static Lib.Math.min.name, Cond.initialized "java/lang/Math", Cond.code Lib.Math.min.name Lib.Math.min.code 2 (some .int), Cond.methodLink RX3 71 yX2_settle]
def wsX3_joinAll : List Cond := .code yX3_joinAll cX3_joinAll 4 none :: ((wsX3_joinAll_r1 ++ wsX3_joinAll_r2) ++ wsX30 ++ wsX20)
def wsX3_cheapest_r1 : List Cond := [Cond.fieldLink RX3 15 "PlateauBench$Nets" "count" "I", Cond.fieldLink RX3 19 "PlateauBench$Nets" "joined" "[I", Cond.fieldLink RX3 9 "PlateauBench$Nets" "nodes" "[I", Cond.methodLink RX3 38 yX3_joinAll, Cond.instanceMethod yX3_joinAll, Cond.selects RX3 yX3_joinAll yX3_joinAll, Cond.initialized RX3, Cond.code yX3_joinAll cX3_joinAll 4 none, Cond.fieldLink RX3 22 "PlateauBench$Nets" "isJoined" "Z", Cond.methodLink RX3 58 yX2_measure, Cond.instanceMethod yX2_measure, Cond.selects RX2 yX2_measure yX2_measure, Cond.initialized RX2, Cond.code yX2_measure cX2_measure 5 none, Cond.constant RX2 34 (1000000), Cond.methodLink RX2 35 yX2_settle, Cond.instanceMethod yX2_settle, Cond.selects RX2 yX2_settle yX2_settle, Cond.code yX2_settle cX2_settle 6 none, Cond.methodLink RX2 39 yX2_lower, Cond.instanceMethod yX2_lower, Cond.selects RX2 yX2_lower yX2_lower, Cond.code yX2_lower cX2_lower 7 (some .boolean), Cond.fieldLink RX2 9 "PlateauBench$Grid" "low" "[I"]
def wsX3_cheapest_r2 : List Cond := [Cond.fieldLink RX2 15 "PlateauBench$Grid" "high" "[I", Cond.fieldLink RX2 24 "PlateauBench$Grid" "prices" "[I", Cond.methodLink RX3 42 yX3_allTowns, Cond.instanceMethod yX3_allTowns, Cond.selects RX3 yX3_allTowns yX3_allTowns, Cond.code yX3_allTowns cX3_allTowns 1 (some .int), Cond.methodLink RX3 62 yJ6_bitCount_0f7a4, Cond.static yJ6_bitCount_0f7a4, Cond.initialized RJ6, Cond.code yJ6_bitCount_0f7a4 cJ6_bitCount_0f7a4 1 (some .int), Cond.constant RJ6 265 (1431655765), Cond.constant RJ6 266 (858993459), Cond.constant RJ6 267 (252645135), Cond.methodLink RX3 67 yX3_joinParts, Cond.instanceMethod yX3_joinParts, Cond.selects RX3 yX3_joinParts yX3_joinParts, Cond.code yX3_joinParts cX3_joinParts 7 none, Cond.constant RX3 75 (1000000), Cond.methodLink RX3 76 Lib.Math.min.name, Cond.static Lib.Math.min.name, Cond.initialized "java/lang/Math", Cond.code Lib.Math.min.name Lib.Math.min.code 2 (some .int), Cond.methodLink RX3 71 yX2_settle]
def wsX3_cheapest : List Cond := .code yX3_cheapest cX3_cheapest 2 (some .int) :: ((wsX3_cheapest_r1 ++ wsX3_cheapest_r2) ++ wsX30 ++ wsX20)
def wsX3_isInCheapest_r1 : List Cond := [Cond.fieldLink RX3 15 "PlateauBench$Nets" "count" "I", Cond.fieldLink RX3 19 "PlateauBench$Nets" "joined" "[I", Cond.fieldLink RX3 9 "PlateauBench$Nets" "nodes" "[I", Cond.methodLink RX3 38 yX3_joinAll, Cond.instanceMethod yX3_joinAll, Cond.selects RX3 yX3_joinAll yX3_joinAll, Cond.initialized RX3, Cond.code yX3_joinAll cX3_joinAll 4 none, Cond.fieldLink RX3 22 "PlateauBench$Nets" "isJoined" "Z", Cond.methodLink RX3 58 yX2_measure, Cond.instanceMethod yX2_measure, Cond.selects RX2 yX2_measure yX2_measure, Cond.initialized RX2, Cond.code yX2_measure cX2_measure 5 none, Cond.constant RX2 34 (1000000), Cond.methodLink RX2 35 yX2_settle, Cond.instanceMethod yX2_settle, Cond.selects RX2 yX2_settle yX2_settle, Cond.code yX2_settle cX2_settle 6 none, Cond.methodLink RX2 39 yX2_lower, Cond.instanceMethod yX2_lower, Cond.selects RX2 yX2_lower yX2_lower, Cond.code yX2_lower cX2_lower 7 (some .boolean), Cond.fieldLink RX2 9 "PlateauBench$Grid" "low" "[I"]
def wsX3_isInCheapest_r2 : List Cond := [Cond.fieldLink RX2 15 "PlateauBench$Grid" "high" "[I", Cond.fieldLink RX2 24 "PlateauBench$Grid" "prices" "[I", Cond.methodLink RX3 42 yX3_allTowns, Cond.instanceMethod yX3_allTowns, Cond.selects RX3 yX3_allTowns yX3_allTowns, Cond.code yX3_allTowns cX3_allTowns 1 (some .int), Cond.methodLink RX3 62 yJ6_bitCount_0f7a4, Cond.static yJ6_bitCount_0f7a4, Cond.initialized RJ6, Cond.code yJ6_bitCount_0f7a4 cJ6_bitCount_0f7a4 1 (some .int), Cond.constant RJ6 265 (1431655765), Cond.constant RJ6 266 (858993459), Cond.constant RJ6 267 (252645135), Cond.methodLink RX3 67 yX3_joinParts, Cond.instanceMethod yX3_joinParts, Cond.selects RX3 yX3_joinParts yX3_joinParts, Cond.code yX3_joinParts cX3_joinParts 7 none, Cond.constant RX3 75 (1000000), Cond.methodLink RX3 76 Lib.Math.min.name, Cond.static Lib.Math.min.name, Cond.initialized "java/lang/Math", Cond.code Lib.Math.min.name Lib.Math.min.code 2 (some .int), Cond.methodLink RX3 71 yX2_settle, Cond.methodLink RX3 46 yX2_low]
def wsX3_isInCheapest_r3 : List Cond := [Cond.instanceMethod yX2_low, Cond.selects RX2 yX2_low yX2_low, Cond.code yX2_low cX2_low 2 (some .int), Cond.methodLink RX3 52 yX2_high, Cond.instanceMethod yX2_high, Cond.selects RX2 yX2_high yX2_high, Cond.code yX2_high cX2_high 2 (some .int), Cond.methodLink RX3 55 yX2_price, Cond.instanceMethod yX2_price, Cond.selects RX2 yX2_price yX2_price, Cond.code yX2_price cX2_price 2 (some .int)]
def wsX3_isInCheapest : List Cond := .code yX3_isInCheapest cX3_isInCheapest 9 (some .boolean) :: ((wsX3_isInCheapest_r1 ++ (wsX3_isInCheapest_r2 ++ wsX3_isInCheapest_r3)) ++ wsX30 ++ wsX20)
def wsX3_measureTowns : List Cond := .code yX3_measureTowns cX3_measureTowns 3 none :: ([.fieldLink RX3 15 "PlateauBench$Nets" "count" "I", .fieldLink RX3 26 "PlateauBench$Nets" "wayTo" "[I", .fieldLink RX3 9 "PlateauBench$Nets" "nodes" "[I", .methodLink RX3 58 yX2_measure, .instanceMethod yX2_measure, .selects RX2 yX2_measure yX2_measure, .initialized RX2, .code yX2_measure cX2_measure 5 none, .constant RX2 34 (1000000), .methodLink RX2 35 yX2_settle, .instanceMethod yX2_settle, .selects RX2 yX2_settle yX2_settle, .code yX2_settle cX2_settle 6 none, .methodLink RX2 39 yX2_lower, .instanceMethod yX2_lower, .selects RX2 yX2_lower yX2_lower, .code yX2_lower cX2_lower 7 (some .boolean), .fieldLink RX2 9 "PlateauBench$Grid" "low" "[I", .fieldLink RX2 15 "PlateauBench$Grid" "high" "[I", .fieldLink RX2 24 "PlateauBench$Grid" "prices" "[I"] ++ wsX30 ++ wsX20)
def wsX3_hungOn : List Cond := .code yX3_hungOn cX3_hungOn 5 (some .int) :: ([.fieldLink RX3 15 "PlateauBench$Nets" "count" "I", .fieldLink RX3 26 "PlateauBench$Nets" "wayTo" "[I", .methodLink RX3 76 Lib.Math.min.name, .static Lib.Math.min.name, .initialized "java/lang/Math", .code Lib.Math.min.name Lib.Math.min.code 2 (some .int)] ++ wsX30)
def wsX3_cheapestOfShapes_r1 : List Cond := [Cond.fieldLink RX3 15 "PlateauBench$Nets" "count" "I", Cond.constant RX3 75 (1000000), Cond.fieldLink RX3 29 "PlateauBench$Nets" "row" "[I", Cond.methodLink RX3 76 Lib.Math.min.name, Cond.static Lib.Math.min.name, Cond.initialized "java/lang/Math", Cond.code Lib.Math.min.name Lib.Math.min.code 2 (some .int), Cond.methodLink RX3 82 yX3_measureTowns, Cond.instanceMethod yX3_measureTowns, Cond.selects RX3 yX3_measureTowns yX3_measureTowns, Cond.initialized RX3, Cond.code yX3_measureTowns cX3_measureTowns 3 none, Cond.fieldLink RX3 26 "PlateauBench$Nets" "wayTo" "[I", Cond.fieldLink RX3 9 "PlateauBench$Nets" "nodes" "[I", Cond.methodLink RX3 58 yX2_measure, Cond.instanceMethod yX2_measure, Cond.selects RX2 yX2_measure yX2_measure, Cond.initialized RX2, Cond.code yX2_measure cX2_measure 5 none, Cond.constant RX2 34 (1000000), Cond.methodLink RX2 35 yX2_settle, Cond.instanceMethod yX2_settle, Cond.selects RX2 yX2_settle yX2_settle, Cond.code yX2_settle cX2_settle 6 none]
def wsX3_cheapestOfShapes_r2 : List Cond := [Cond.methodLink RX2 39 yX2_lower, Cond.instanceMethod yX2_lower, Cond.selects RX2 yX2_lower yX2_lower, Cond.code yX2_lower cX2_lower 7 (some .boolean), Cond.fieldLink RX2 9 "PlateauBench$Grid" "low" "[I", Cond.fieldLink RX2 15 "PlateauBench$Grid" "high" "[I", Cond.fieldLink RX2 24 "PlateauBench$Grid" "prices" "[I", Cond.methodLink RX3 85 yX3_hungOn, Cond.instanceMethod yX3_hungOn, Cond.selects RX3 yX3_hungOn yX3_hungOn, Cond.code yX3_hungOn cX3_hungOn 5 (some .int)]
def wsX3_cheapestOfShapes : List Cond := .code yX3_cheapestOfShapes cX3_cheapestOfShapes 5 (some .int) :: ((wsX3_cheapestOfShapes_r1 ++ wsX3_cheapestOfShapes_r2) ++ wsX30 ++ wsX20)
def wsX3_between : List Cond := .code yX3_between cX3_between 3 (some .int) :: ([.fieldLink RX3 26 "PlateauBench$Nets" "wayTo" "[I", .fieldLink RX3 9 "PlateauBench$Nets" "nodes" "[I"] ++ wsX30)
def wsX3_nearestOutside : List Cond := .code yX3_nearestOutside cX3_nearestOutside 3 (some .int) :: ([.fieldLink RX3 15 "PlateauBench$Nets" "count" "I", .fieldLink RX3 32 "PlateauBench$Nets" "reach" "[I"] ++ wsX30)
def wsX3_cheapestPairs : List Cond := .code yX3_cheapestPairs cX3_cheapestPairs 5 (some .int) :: ([.fieldLink RX3 15 "PlateauBench$Nets" "count" "I", .fieldLink RX3 32 "PlateauBench$Nets" "reach" "[I", .methodLink RX3 76 Lib.Math.min.name, .static Lib.Math.min.name, .initialized "java/lang/Math", .code Lib.Math.min.name Lib.Math.min.code 2 (some .int), .methodLink RX3 103 yX3_between, .instanceMethod yX3_between, .selects RX3 yX3_between yX3_between, .initialized RX3, .code yX3_between cX3_between 3 (some .int), .fieldLink RX3 26 "PlateauBench$Nets" "wayTo" "[I", .fieldLink RX3 9 "PlateauBench$Nets" "nodes" "[I", .methodLink RX3 106 yX3_nearestOutside, .instanceMethod yX3_nearestOutside, .selects RX3 yX3_nearestOutside yX3_nearestOutside, .code yX3_nearestOutside cX3_nearestOutside 3 (some .int)] ++ wsX30)
def wsX3_halfUp : List Cond := .code yX3_halfUp cX3_halfUp 1 (some .int) :: ([])
def wsX3_farthestPair : List Cond := .code yX3_farthestPair cX3_farthestPair 4 (some .int) :: ([.fieldLink RX3 15 "PlateauBench$Nets" "count" "I", .methodLink RX3 100 Lib.Math.max.name, .static Lib.Math.max.name, .initialized "java/lang/Math", .code Lib.Math.max.name Lib.Math.max.code 2 (some .int), .methodLink RX3 103 yX3_between, .instanceMethod yX3_between, .selects RX3 yX3_between yX3_between, .initialized RX3, .code yX3_between cX3_between 3 (some .int), .fieldLink RX3 26 "PlateauBench$Nets" "wayTo" "[I", .fieldLink RX3 9 "PlateauBench$Nets" "nodes" "[I"] ++ wsX30)
def wsX3_farthestThree : List Cond := .code yX3_farthestThree cX3_farthestThree 5 (some .int) :: ([.fieldLink RX3 15 "PlateauBench$Nets" "count" "I", .methodLink RX3 100 Lib.Math.max.name, .static Lib.Math.max.name, .initialized "java/lang/Math", .code Lib.Math.max.name Lib.Math.max.code 2 (some .int), .methodLink RX3 103 yX3_between, .instanceMethod yX3_between, .selects RX3 yX3_between yX3_between, .initialized RX3, .code yX3_between cX3_between 3 (some .int), .fieldLink RX3 26 "PlateauBench$Nets" "wayTo" "[I", .fieldLink RX3 9 "PlateauBench$Nets" "nodes" "[I"] ++ wsX30)
def wsX3_lowerBound_r1 : List Cond := [Cond.fieldLink RX3 15 "PlateauBench$Nets" "count" "I", Cond.methodLink RX3 100 Lib.Math.max.name, Cond.static Lib.Math.max.name, Cond.initialized "java/lang/Math", Cond.code Lib.Math.max.name Lib.Math.max.code 2 (some .int), Cond.methodLink RX3 82 yX3_measureTowns, Cond.instanceMethod yX3_measureTowns, Cond.selects RX3 yX3_measureTowns yX3_measureTowns, Cond.initialized RX3, Cond.code yX3_measureTowns cX3_measureTowns 3 none, Cond.fieldLink RX3 26 "PlateauBench$Nets" "wayTo" "[I", Cond.fieldLink RX3 9 "PlateauBench$Nets" "nodes" "[I", Cond.methodLink RX3 58 yX2_measure, Cond.instanceMethod yX2_measure, Cond.selects RX2 yX2_measure yX2_measure, Cond.initialized RX2, Cond.code yX2_measure cX2_measure 5 none, Cond.constant RX2 34 (1000000), Cond.methodLink RX2 35 yX2_settle, Cond.instanceMethod yX2_settle, Cond.selects RX2 yX2_settle yX2_settle, Cond.code yX2_settle cX2_settle 6 none, Cond.methodLink RX2 39 yX2_lower, Cond.instanceMethod yX2_lower]
def wsX3_lowerBound_r2 : List Cond := [Cond.selects RX2 yX2_lower yX2_lower, Cond.code yX2_lower cX2_lower 7 (some .boolean), Cond.fieldLink RX2 9 "PlateauBench$Grid" "low" "[I", Cond.fieldLink RX2 15 "PlateauBench$Grid" "high" "[I", Cond.fieldLink RX2 24 "PlateauBench$Grid" "prices" "[I", Cond.methodLink RX3 88 yX3_cheapestPairs, Cond.instanceMethod yX3_cheapestPairs, Cond.selects RX3 yX3_cheapestPairs yX3_cheapestPairs, Cond.code yX3_cheapestPairs cX3_cheapestPairs 5 (some .int), Cond.fieldLink RX3 32 "PlateauBench$Nets" "reach" "[I", Cond.methodLink RX3 76 Lib.Math.min.name, Cond.static Lib.Math.min.name, Cond.code Lib.Math.min.name Lib.Math.min.code 2 (some .int), Cond.methodLink RX3 103 yX3_between, Cond.instanceMethod yX3_between, Cond.selects RX3 yX3_between yX3_between, Cond.code yX3_between cX3_between 3 (some .int), Cond.methodLink RX3 106 yX3_nearestOutside, Cond.instanceMethod yX3_nearestOutside, Cond.selects RX3 yX3_nearestOutside yX3_nearestOutside, Cond.code yX3_nearestOutside cX3_nearestOutside 3 (some .int), Cond.methodLink RX3 91 yX3_halfUp, Cond.static yX3_halfUp, Cond.code yX3_halfUp cX3_halfUp 1 (some .int)]
def wsX3_lowerBound_r3 : List Cond := [Cond.methodLink RX3 94 yX3_farthestPair, Cond.instanceMethod yX3_farthestPair, Cond.selects RX3 yX3_farthestPair yX3_farthestPair, Cond.code yX3_farthestPair cX3_farthestPair 4 (some .int), Cond.methodLink RX3 97 yX3_farthestThree, Cond.instanceMethod yX3_farthestThree, Cond.selects RX3 yX3_farthestThree yX3_farthestThree, Cond.code yX3_farthestThree cX3_farthestThree 5 (some .int)]
def wsX3_lowerBound : List Cond := .code yX3_lowerBound cX3_lowerBound 2 (some .int) :: ((wsX3_lowerBound_r1 ++ (wsX3_lowerBound_r2 ++ wsX3_lowerBound_r3)) ++ wsX30 ++ wsX20)
def wsX4_init : List Cond := .code yX4_init cX4_init 1 none :: ([.methodLink RX4 3 objectInit, .instanceMethod objectInit, .code objectInit ⟨#[0xb1]⟩ 1 none, .arrayClass .int, .fieldLink RX4 9 "PlateauBench$TwoWays" "row" "[I", .fieldLink RX4 15 "PlateauBench$TwoWays" "taken" "[I"] ++ wsX40)
def wsX4_cheapest : List Cond := .code yX4_cheapest cX4_cheapest 4 (some .int) :: ([.fieldLink RX4 9 "PlateauBench$TwoWays" "row" "[I", .methodLink RX4 18 yX2_measure, .instanceMethod yX2_measure, .selects RX2 yX2_measure yX2_measure, .initialized RX2, .code yX2_measure cX2_measure 5 none, .constant RX2 34 (1000000), .methodLink RX2 35 yX2_settle, .instanceMethod yX2_settle, .selects RX2 yX2_settle yX2_settle, .code yX2_settle cX2_settle 6 none, .methodLink RX2 39 yX2_lower, .instanceMethod yX2_lower, .selects RX2 yX2_lower yX2_lower, .code yX2_lower cX2_lower 7 (some .boolean), .fieldLink RX2 9 "PlateauBench$Grid" "low" "[I", .fieldLink RX2 15 "PlateauBench$Grid" "high" "[I", .fieldLink RX2 24 "PlateauBench$Grid" "prices" "[I"] ++ wsX40 ++ wsX20)
def wsX4_stepBack : List Cond := .code yX4_stepBack cX4_stepBack 6 (some .int) :: ([.fieldLink RX4 9 "PlateauBench$TwoWays" "row" "[I", .fieldLink RX4 15 "PlateauBench$TwoWays" "taken" "[I", .methodLink RX4 39 yX2_beside, .instanceMethod yX2_beside, .selects RX2 yX2_beside yX2_beside, .initialized RX2, .code yX2_beside cX2_beside 3 (some .int), .fieldLink RX2 18 "PlateauBench$Grid" "beside" "[I", .methodLink RX4 43 yX2_otherEnd, .instanceMethod yX2_otherEnd, .selects RX2 yX2_otherEnd yX2_otherEnd, .code yX2_otherEnd cX2_otherEnd 3 (some .int), .fieldLink RX2 9 "PlateauBench$Grid" "low" "[I", .fieldLink RX2 15 "PlateauBench$Grid" "high" "[I", .methodLink RX4 46 yX2_price, .instanceMethod yX2_price, .selects RX2 yX2_price yX2_price, .code yX2_price cX2_price 2 (some .int), .fieldLink RX2 24 "PlateauBench$Grid" "prices" "[I"] ++ wsX40 ++ wsX20)
def wsX4_takeWayBack : List Cond := .code yX4_takeWayBack cX4_takeWayBack 5 none :: ([.fieldLink RX4 15 "PlateauBench$TwoWays" "taken" "[I", .fieldLink RX4 9 "PlateauBench$TwoWays" "row" "[I", .methodLink RX4 35 yX4_stepBack, .instanceMethod yX4_stepBack, .selects RX4 yX4_stepBack yX4_stepBack, .initialized RX4, .code yX4_stepBack cX4_stepBack 6 (some .int), .methodLink RX4 39 yX2_beside, .instanceMethod yX2_beside, .selects RX2 yX2_beside yX2_beside, .initialized RX2, .code yX2_beside cX2_beside 3 (some .int), .fieldLink RX2 18 "PlateauBench$Grid" "beside" "[I", .methodLink RX4 43 yX2_otherEnd, .instanceMethod yX2_otherEnd, .selects RX2 yX2_otherEnd yX2_otherEnd, .code yX2_otherEnd cX2_otherEnd 3 (some .int), .fieldLink RX2 9 "PlateauBench$Grid" "low" "[I", .fieldLink RX2 15 "PlateauBench$Grid" "high" "[I", .methodLink RX4 46 yX2_price, .instanceMethod yX2_price, .selects RX2 yX2_price yX2_price, .code yX2_price cX2_price 2 (some .int), .fieldLink RX2 24 "PlateauBench$Grid" "prices" "[I"] ++ wsX40 ++ wsX20)
def wsX4_lower : List Cond := .code yX4_lower cX4_lower 7 (some .boolean) :: ([.fieldLink RX4 15 "PlateauBench$TwoWays" "taken" "[I", .fieldLink RX4 9 "PlateauBench$TwoWays" "row" "[I", .constant RX4 50 (1000000), .methodLink RX4 46 yX2_price, .instanceMethod yX2_price, .selects RX2 yX2_price yX2_price, .initialized RX2, .code yX2_price cX2_price 2 (some .int), .fieldLink RX2 24 "PlateauBench$Grid" "prices" "[I"] ++ wsX40 ++ wsX20)
def wsX4_measureBesideTaken : List Cond := .code yX4_measureBesideTaken cX4_measureBesideTaken 8 none :: ([.fieldLink RX4 9 "PlateauBench$TwoWays" "row" "[I", .constant RX4 50 (1000000), .methodLink RX4 51 yX2_low, .instanceMethod yX2_low, .selects RX2 yX2_low yX2_low, .initialized RX2, .code yX2_low cX2_low 2 (some .int), .fieldLink RX2 9 "PlateauBench$Grid" "low" "[I", .methodLink RX4 54 yX2_high, .instanceMethod yX2_high, .selects RX2 yX2_high yX2_high, .code yX2_high cX2_high 2 (some .int), .fieldLink RX2 15 "PlateauBench$Grid" "high" "[I", .methodLink RX4 57 yX4_lower, .instanceMethod yX4_lower, .selects RX4 yX4_lower yX4_lower, .initialized RX4, .code yX4_lower cX4_lower 7 (some .boolean), .fieldLink RX4 15 "PlateauBench$TwoWays" "taken" "[I", .methodLink RX4 46 yX2_price, .instanceMethod yX2_price, .selects RX2 yX2_price yX2_price, .code yX2_price cX2_price 2 (some .int), .fieldLink RX2 24 "PlateauBench$Grid" "prices" "[I"] ++ wsX40 ++ wsX20)
def wsX4_cheapestPair_r1 : List Cond := [Cond.fieldLink RX4 9 "PlateauBench$TwoWays" "row" "[I", Cond.methodLink RX4 24 yX4_cheapest, Cond.instanceMethod yX4_cheapest, Cond.selects RX4 yX4_cheapest yX4_cheapest, Cond.initialized RX4, Cond.code yX4_cheapest cX4_cheapest 4 (some .int), Cond.methodLink RX4 18 yX2_measure, Cond.instanceMethod yX2_measure, Cond.selects RX2 yX2_measure yX2_measure, Cond.initialized RX2, Cond.code yX2_measure cX2_measure 5 none, Cond.constant RX2 34 (1000000), Cond.methodLink RX2 35 yX2_settle, Cond.instanceMethod yX2_settle, Cond.selects RX2 yX2_settle yX2_settle, Cond.code yX2_settle cX2_settle 6 none, Cond.methodLink RX2 39 yX2_lower, Cond.instanceMethod yX2_lower, Cond.selects RX2 yX2_lower yX2_lower, Cond.code yX2_lower cX2_lower 7 (some .boolean), Cond.fieldLink RX2 9 "PlateauBench$Grid" "low" "[I", Cond.fieldLink RX2 15 "PlateauBench$Grid" "high" "[I", Cond.fieldLink RX2 24 "PlateauBench$Grid" "prices" "[I", Cond.methodLink RX4 28 yX4_takeWayBack]
def wsX4_cheapestPair_r2 : List Cond := [Cond.instanceMethod yX4_takeWayBack, Cond.selects RX4 yX4_takeWayBack yX4_takeWayBack, Cond.code yX4_takeWayBack cX4_takeWayBack 5 none, Cond.fieldLink RX4 15 "PlateauBench$TwoWays" "taken" "[I", Cond.methodLink RX4 35 yX4_stepBack, Cond.instanceMethod yX4_stepBack, Cond.selects RX4 yX4_stepBack yX4_stepBack, Cond.code yX4_stepBack cX4_stepBack 6 (some .int), Cond.methodLink RX4 39 yX2_beside, Cond.instanceMethod yX2_beside, Cond.selects RX2 yX2_beside yX2_beside, Cond.code yX2_beside cX2_beside 3 (some .int), Cond.fieldLink RX2 18 "PlateauBench$Grid" "beside" "[I", Cond.methodLink RX4 43 yX2_otherEnd, Cond.instanceMethod yX2_otherEnd, Cond.selects RX2 yX2_otherEnd yX2_otherEnd, Cond.code yX2_otherEnd cX2_otherEnd 3 (some .int), Cond.methodLink RX4 46 yX2_price, Cond.instanceMethod yX2_price, Cond.selects RX2 yX2_price yX2_price, Cond.code yX2_price cX2_price 2 (some .int), Cond.methodLink RX4 32 yX4_measureBesideTaken, Cond.instanceMethod yX4_measureBesideTaken, Cond.selects RX4 yX4_measureBesideTaken yX4_measureBesideTaken]
def wsX4_cheapestPair_r3 : List Cond := [Cond.code yX4_measureBesideTaken cX4_measureBesideTaken 8 none, Cond.constant RX4 50 (1000000), Cond.methodLink RX4 51 yX2_low, Cond.instanceMethod yX2_low, Cond.selects RX2 yX2_low yX2_low, Cond.code yX2_low cX2_low 2 (some .int), Cond.methodLink RX4 54 yX2_high, Cond.instanceMethod yX2_high, Cond.selects RX2 yX2_high yX2_high, Cond.code yX2_high cX2_high 2 (some .int), Cond.methodLink RX4 57 yX4_lower, Cond.instanceMethod yX4_lower, Cond.selects RX4 yX4_lower yX4_lower, Cond.code yX4_lower cX4_lower 7 (some .boolean)]
def wsX4_cheapestPair : List Cond := .code yX4_cheapestPair cX4_cheapestPair 5 (some .int) :: ((wsX4_cheapestPair_r1 ++ (wsX4_cheapestPair_r2 ++ wsX4_cheapestPair_r3)) ++ wsX40 ++ wsX20)
def wsX5_init_r1 : List Cond := [Cond.methodLink RX5 1 objectInit, Cond.instanceMethod objectInit, Cond.code objectInit ⟨#[0xb1]⟩ 1 none, Cond.classLink RX5 7 RX2, Cond.instantiable RX2 7, Cond.initialized RX2, Cond.fieldLink RX5 10 "PlateauBench" "grid" "LPlateauBench$Grid;", Cond.classLink RX5 16 RX4, Cond.instantiable RX4 2, Cond.initialized RX4, Cond.fieldLink RX5 19 "PlateauBench" "ways" "LPlateauBench$TwoWays;", Cond.classLink RX5 23 RX3, Cond.instantiable RX3 7, Cond.initialized RX3, Cond.fieldLink RX5 26 "PlateauBench" "nets" "LPlateauBench$Nets;", Cond.classLink RX5 30 RX0, Cond.instantiable RX0 4, Cond.initialized RX0, Cond.fieldLink RX5 33 "PlateauBench" "films" "LPlateauBench$Films;", Cond.classLink RX5 37 RX1, Cond.instantiable RX1 7, Cond.initialized RX1, Cond.fieldLink RX5 40 "PlateauBench" "foam" "LPlateauBench$Foam;", Cond.methodLink RX5 9 yX2_init]
def wsX5_init_r2 : List Cond := [Cond.instanceMethod yX2_init, Cond.code yX2_init cX2_init 5 none, Cond.methodLink RX2 3 objectInit, Cond.arrayClass .int, Cond.fieldLink RX2 9 "PlateauBench$Grid" "low" "[I", Cond.fieldLink RX2 15 "PlateauBench$Grid" "high" "[I", Cond.fieldLink RX2 18 "PlateauBench$Grid" "beside" "[I", Cond.fieldLink RX2 21 "PlateauBench$Grid" "laid" "[I", Cond.fieldLink RX2 24 "PlateauBench$Grid" "prices" "[I", Cond.fieldLink RX2 27 "PlateauBench$Grid" "across" "I", Cond.fieldLink RX2 31 "PlateauBench$Grid" "down" "I", Cond.instanceMethod yX4_init, Cond.code yX4_init cX4_init 1 none, Cond.methodLink RX4 3 objectInit, Cond.fieldLink RX4 9 "PlateauBench$TwoWays" "row" "[I", Cond.fieldLink RX4 15 "PlateauBench$TwoWays" "taken" "[I", Cond.instanceMethod yX3_init, Cond.code yX3_init cX3_init 1 none, Cond.methodLink RX3 3 objectInit, Cond.fieldLink RX3 9 "PlateauBench$Nets" "nodes" "[I", Cond.fieldLink RX3 15 "PlateauBench$Nets" "count" "I", Cond.fieldLink RX3 19 "PlateauBench$Nets" "joined" "[I", Cond.fieldLink RX3 22 "PlateauBench$Nets" "isJoined" "Z", Cond.fieldLink RX3 26 "PlateauBench$Nets" "wayTo" "[I"]
def wsX5_init_r3 : List Cond := [Cond.fieldLink RX3 29 "PlateauBench$Nets" "row" "[I", Cond.fieldLink RX3 32 "PlateauBench$Nets" "reach" "[I", Cond.instanceMethod yX0_init, Cond.code yX0_init cX0_init 1 none, Cond.methodLink RX0 3 objectInit, Cond.fieldLink RX0 9 "PlateauBench$Films" "pinned" "[I", Cond.fieldLink RX0 15 "PlateauBench$Films" "flow" "[I", Cond.fieldLink RX0 18 "PlateauBench$Films" "cameBy" "[I", Cond.fieldLink RX0 21 "PlateauBench$Films" "queue" "[I", Cond.instanceMethod yX1_init, Cond.code yX1_init cX1_init 1 none, Cond.methodLink RX1 3 objectInit, Cond.fieldLink RX1 9 "PlateauBench$Foam" "owners" "[I", Cond.fieldLink RX1 15 "PlateauBench$Foam" "ahead" "[I", Cond.arrayClass .boolean, Cond.fieldLink RX1 18 "PlateauBench$Foam" "held" "[Z", Cond.fieldLink RX1 22 "PlateauBench$Foam" "seen" "[Z", Cond.fieldLink RX1 25 "PlateauBench$Foam" "queue" "[I", Cond.fieldLink RX1 28 "PlateauBench$Foam" "work" "I", Cond.fieldLink RX1 32 "PlateauBench$Foam" "lost" "I"]
def wsX5_init : List Cond := .code yX5_init cX5_init 1 none :: ((wsX5_init_r1 ++ (wsX5_init_r2 ++ wsX5_init_r3)) ++ wsX20 ++ wsX50 ++ wsX40 ++ wsX30 ++ wsX00 ++ wsX10)
def wsX5_takeInNewPrices_r1 : List Cond := [Cond.fieldLink RX5 26 "PlateauBench" "nets" "LPlateauBench$Nets;", Cond.fieldLink RX5 40 "PlateauBench" "foam" "LPlateauBench$Foam;", Cond.fieldLink RX5 10 "PlateauBench" "grid" "LPlateauBench$Grid;", Cond.methodLink RX5 209 yX3_forget, Cond.instanceMethod yX3_forget, Cond.selects RX3 yX3_forget yX3_forget, Cond.initialized RX3, Cond.code yX3_forget cX3_forget 1 none, Cond.fieldLink RX3 22 "PlateauBench$Nets" "isJoined" "Z", Cond.methodLink RX5 53 yX1_energyNow, Cond.instanceMethod yX1_energyNow, Cond.selects RX1 yX1_energyNow yX1_energyNow, Cond.initialized RX1, Cond.code yX1_energyNow cX1_energyNow 2 (some .int), Cond.fieldLink RX1 9 "PlateauBench$Foam" "owners" "[I", Cond.methodLink RX1 35 yX1_energyOf, Cond.static yX1_energyOf, Cond.code yX1_energyOf cX1_energyOf 4 (some .int), Cond.methodLink RX1 39 yX2_low, Cond.instanceMethod yX2_low, Cond.selects RX2 yX2_low yX2_low, Cond.initialized RX2, Cond.code yX2_low cX2_low 2 (some .int), Cond.fieldLink RX2 9 "PlateauBench$Grid" "low" "[I"]
def wsX5_takeInNewPrices_r2 : List Cond := [Cond.methodLink RX1 45 yX2_high, Cond.instanceMethod yX2_high, Cond.selects RX2 yX2_high yX2_high, Cond.code yX2_high cX2_high 2 (some .int), Cond.fieldLink RX2 15 "PlateauBench$Grid" "high" "[I", Cond.methodLink RX1 48 yX2_price, Cond.instanceMethod yX2_price, Cond.selects RX2 yX2_price yX2_price, Cond.code yX2_price cX2_price 2 (some .int), Cond.fieldLink RX2 24 "PlateauBench$Grid" "prices" "[I", Cond.methodLink RX5 212 yX1_addWork, Cond.instanceMethod yX1_addWork, Cond.selects RX1 yX1_addWork yX1_addWork, Cond.code yX1_addWork cX1_addWork 2 none, Cond.fieldLink RX1 28 "PlateauBench$Foam" "work" "I"]
def wsX5_takeInNewPrices : List Cond := .code yX5_takeInNewPrices cX5_takeInNewPrices 2 none :: ((wsX5_takeInNewPrices_r1 ++ wsX5_takeInNewPrices_r2) ++ wsX50 ++ wsX30 ++ wsX10 ++ wsX20)
def wsX5_cost_r1 : List Cond := [Cond.classLink RX5 44 "java/lang/IllegalArgumentException", Cond.initialized "java/lang/IllegalArgumentException", Cond.fieldLink RX5 40 "PlateauBench" "foam" "LPlateauBench$Foam;", Cond.fieldLink RX5 10 "PlateauBench" "grid" "LPlateauBench$Grid;", Cond.methodLink RX5 53 yX1_energyNow, Cond.instanceMethod yX1_energyNow, Cond.selects RX1 yX1_energyNow yX1_energyNow, Cond.initialized RX1, Cond.code yX1_energyNow cX1_energyNow 2 (some .int), Cond.fieldLink RX1 9 "PlateauBench$Foam" "owners" "[I", Cond.methodLink RX1 35 yX1_energyOf, Cond.static yX1_energyOf, Cond.code yX1_energyOf cX1_energyOf 4 (some .int), Cond.methodLink RX1 39 yX2_low, Cond.instanceMethod yX2_low, Cond.selects RX2 yX2_low yX2_low, Cond.initialized RX2, Cond.code yX2_low cX2_low 2 (some .int), Cond.fieldLink RX2 9 "PlateauBench$Grid" "low" "[I", Cond.methodLink RX1 45 yX2_high, Cond.instanceMethod yX2_high, Cond.selects RX2 yX2_high yX2_high, Cond.code yX2_high cX2_high 2 (some .int), Cond.fieldLink RX2 15 "PlateauBench$Grid" "high" "[I"]
def wsX5_cost_r2 : List Cond := [Cond.methodLink RX1 48 yX2_price, Cond.instanceMethod yX2_price, Cond.selects RX2 yX2_price yX2_price, Cond.code yX2_price cX2_price 2 (some .int), Cond.fieldLink RX2 24 "PlateauBench$Grid" "prices" "[I", Cond.methodLink RX5 57 yX2_changeDirection, Cond.instanceMethod yX2_changeDirection, Cond.selects RX2 yX2_changeDirection yX2_changeDirection, Cond.code yX2_changeDirection cX2_changeDirection 5 (some .int), Cond.fieldLink RX2 27 "PlateauBench$Grid" "across" "I", Cond.fieldLink RX2 31 "PlateauBench$Grid" "down" "I", Cond.fieldLink RX2 21 "PlateauBench$Grid" "laid" "[I", Cond.methodLink RX5 61 yX5_takeInNewPrices, Cond.instanceMethod yX5_takeInNewPrices, Cond.selects RX5 yX5_takeInNewPrices yX5_takeInNewPrices, Cond.initialized RX5, Cond.code yX5_takeInNewPrices cX5_takeInNewPrices 2 none, Cond.fieldLink RX5 26 "PlateauBench" "nets" "LPlateauBench$Nets;", Cond.methodLink RX5 209 yX3_forget, Cond.instanceMethod yX3_forget, Cond.selects RX3 yX3_forget yX3_forget, Cond.initialized RX3, Cond.code yX3_forget cX3_forget 1 none, Cond.fieldLink RX3 22 "PlateauBench$Nets" "isJoined" "Z"]
def wsX5_cost_r3 : List Cond := [Cond.methodLink RX5 212 yX1_addWork, Cond.instanceMethod yX1_addWork, Cond.selects RX1 yX1_addWork yX1_addWork, Cond.code yX1_addWork cX1_addWork 2 none, Cond.fieldLink RX1 28 "PlateauBench$Foam" "work" "I"]
def wsX5_cost : List Cond := .code yX5_cost cX5_cost 5 (some .int) :: ((wsX5_cost_r1 ++ (wsX5_cost_r2 ++ wsX5_cost_r3)) ++ wsX50 ++ wsX10 ++ wsX20 ++ wsX30 ++ (vx_atS RX5 48 "java/lang/IllegalArgumentException" ["java/lang/RuntimeException", "java/lang/Exception"]).filter goodWord)
def wsX5_checkEdge : List Cond := .code yX5_checkEdge cX5_checkEdge 1 none :: ([.classLink RX5 215 "java/lang/IndexOutOfBoundsException", .initialized "java/lang/IndexOutOfBoundsException"] ++ (vx_atS RX5 219 "java/lang/IndexOutOfBoundsException" ["java/lang/RuntimeException", "java/lang/Exception"]).filter goodWord)
def wsX5_lay_r1 : List Cond := [Cond.classLink RX5 44 "java/lang/IllegalArgumentException", Cond.initialized "java/lang/IllegalArgumentException", Cond.fieldLink RX5 40 "PlateauBench" "foam" "LPlateauBench$Foam;", Cond.fieldLink RX5 10 "PlateauBench" "grid" "LPlateauBench$Grid;", Cond.methodLink RX5 65 yX5_checkEdge, Cond.static yX5_checkEdge, Cond.initialized RX5, Cond.code yX5_checkEdge cX5_checkEdge 1 none, Cond.classLink RX5 215 "java/lang/IndexOutOfBoundsException", Cond.initialized "java/lang/IndexOutOfBoundsException", Cond.methodLink RX5 53 yX1_energyNow, Cond.instanceMethod yX1_energyNow, Cond.selects RX1 yX1_energyNow yX1_energyNow, Cond.initialized RX1, Cond.code yX1_energyNow cX1_energyNow 2 (some .int), Cond.fieldLink RX1 9 "PlateauBench$Foam" "owners" "[I", Cond.methodLink RX1 35 yX1_energyOf, Cond.static yX1_energyOf, Cond.code yX1_energyOf cX1_energyOf 4 (some .int), Cond.methodLink RX1 39 yX2_low, Cond.instanceMethod yX2_low, Cond.selects RX2 yX2_low yX2_low, Cond.initialized RX2, Cond.code yX2_low cX2_low 2 (some .int)]
def wsX5_lay_r2 : List Cond := [Cond.fieldLink RX2 9 "PlateauBench$Grid" "low" "[I", Cond.methodLink RX1 45 yX2_high, Cond.instanceMethod yX2_high, Cond.selects RX2 yX2_high yX2_high, Cond.code yX2_high cX2_high 2 (some .int), Cond.fieldLink RX2 15 "PlateauBench$Grid" "high" "[I", Cond.methodLink RX1 48 yX2_price, Cond.instanceMethod yX2_price, Cond.selects RX2 yX2_price yX2_price, Cond.code yX2_price cX2_price 2 (some .int), Cond.fieldLink RX2 24 "PlateauBench$Grid" "prices" "[I", Cond.methodLink RX5 70 yX2_changeLaid, Cond.instanceMethod yX2_changeLaid, Cond.selects RX2 yX2_changeLaid yX2_changeLaid, Cond.code yX2_changeLaid cX2_changeLaid 4 (some .int), Cond.fieldLink RX2 21 "PlateauBench$Grid" "laid" "[I", Cond.fieldLink RX2 27 "PlateauBench$Grid" "across" "I", Cond.fieldLink RX2 31 "PlateauBench$Grid" "down" "I", Cond.methodLink RX5 61 yX5_takeInNewPrices, Cond.instanceMethod yX5_takeInNewPrices, Cond.selects RX5 yX5_takeInNewPrices yX5_takeInNewPrices, Cond.code yX5_takeInNewPrices cX5_takeInNewPrices 2 none, Cond.fieldLink RX5 26 "PlateauBench" "nets" "LPlateauBench$Nets;", Cond.methodLink RX5 209 yX3_forget]
def wsX5_lay_r3 : List Cond := [Cond.instanceMethod yX3_forget, Cond.selects RX3 yX3_forget yX3_forget, Cond.initialized RX3, Cond.code yX3_forget cX3_forget 1 none, Cond.fieldLink RX3 22 "PlateauBench$Nets" "isJoined" "Z", Cond.methodLink RX5 212 yX1_addWork, Cond.instanceMethod yX1_addWork, Cond.selects RX1 yX1_addWork yX1_addWork, Cond.code yX1_addWork cX1_addWork 2 none, Cond.fieldLink RX1 28 "PlateauBench$Foam" "work" "I"]
def wsX5_lay : List Cond := .code yX5_lay cX5_lay 5 (some .int) :: ((wsX5_lay_r1 ++ (wsX5_lay_r2 ++ wsX5_lay_r3)) ++ wsX50 ++ wsX10 ++ wsX20 ++ wsX30 ++ (vx_atS RX5 48 "java/lang/IllegalArgumentException" ["java/lang/RuntimeException", "java/lang/Exception"]).filter goodWord ++ (vx_atS RX5 219 "java/lang/IndexOutOfBoundsException" ["java/lang/RuntimeException", "java/lang/Exception"]).filter goodWord)
def wsX5_edge : List Cond := .code yX5_edge cX5_edge 2 (some .int) :: ([.fieldLink RX5 10 "PlateauBench" "grid" "LPlateauBench$Grid;", .methodLink RX5 65 yX5_checkEdge, .static yX5_checkEdge, .initialized RX5, .code yX5_checkEdge cX5_checkEdge 1 none, .classLink RX5 215 "java/lang/IndexOutOfBoundsException", .initialized "java/lang/IndexOutOfBoundsException", .methodLink RX5 73 yX2_price, .instanceMethod yX2_price, .selects RX2 yX2_price yX2_price, .initialized RX2, .code yX2_price cX2_price 2 (some .int), .fieldLink RX2 24 "PlateauBench$Grid" "prices" "[I"] ++ wsX50 ++ wsX20 ++ (vx_atS RX5 219 "java/lang/IndexOutOfBoundsException" ["java/lang/RuntimeException", "java/lang/Exception"]).filter goodWord)
def wsX5_checkNode : List Cond := .code yX5_checkNode cX5_checkNode 1 none :: ([.classLink RX5 215 "java/lang/IndexOutOfBoundsException", .initialized "java/lang/IndexOutOfBoundsException"] ++ (vx_atS RX5 219 "java/lang/IndexOutOfBoundsException" ["java/lang/RuntimeException", "java/lang/Exception"]).filter goodWord)
def wsX5_apart_r1 : List Cond := [Cond.fieldLink RX5 19 "PlateauBench" "ways" "LPlateauBench$TwoWays;", Cond.fieldLink RX5 10 "PlateauBench" "grid" "LPlateauBench$Grid;", Cond.methodLink RX5 77 yX5_checkNode, Cond.static yX5_checkNode, Cond.initialized RX5, Cond.code yX5_checkNode cX5_checkNode 1 none, Cond.classLink RX5 215 "java/lang/IndexOutOfBoundsException", Cond.initialized "java/lang/IndexOutOfBoundsException", Cond.methodLink RX5 80 yX4_cheapest, Cond.instanceMethod yX4_cheapest, Cond.selects RX4 yX4_cheapest yX4_cheapest, Cond.initialized RX4, Cond.code yX4_cheapest cX4_cheapest 4 (some .int), Cond.fieldLink RX4 9 "PlateauBench$TwoWays" "row" "[I", Cond.methodLink RX4 18 yX2_measure, Cond.instanceMethod yX2_measure, Cond.selects RX2 yX2_measure yX2_measure, Cond.initialized RX2, Cond.code yX2_measure cX2_measure 5 none, Cond.constant RX2 34 (1000000), Cond.methodLink RX2 35 yX2_settle, Cond.instanceMethod yX2_settle, Cond.selects RX2 yX2_settle yX2_settle, Cond.code yX2_settle cX2_settle 6 none]
def wsX5_apart_r2 : List Cond := [Cond.methodLink RX2 39 yX2_lower, Cond.instanceMethod yX2_lower, Cond.selects RX2 yX2_lower yX2_lower, Cond.code yX2_lower cX2_lower 7 (some .boolean), Cond.fieldLink RX2 9 "PlateauBench$Grid" "low" "[I", Cond.fieldLink RX2 15 "PlateauBench$Grid" "high" "[I", Cond.fieldLink RX2 24 "PlateauBench$Grid" "prices" "[I"]
def wsX5_apart : List Cond := .code yX5_apart cX5_apart 3 (some .int) :: ((wsX5_apart_r1 ++ wsX5_apart_r2) ++ wsX50 ++ wsX40 ++ wsX20 ++ (vx_atS RX5 219 "java/lang/IndexOutOfBoundsException" ["java/lang/RuntimeException", "java/lang/Exception"]).filter goodWord)
def wsX5_town_r1 : List Cond := [Cond.classLink RX5 92 "java/lang/IllegalStateException", Cond.initialized "java/lang/IllegalStateException", Cond.fieldLink RX5 26 "PlateauBench" "nets" "LPlateauBench$Nets;", Cond.methodLink RX5 77 yX5_checkNode, Cond.static yX5_checkNode, Cond.initialized RX5, Cond.code yX5_checkNode cX5_checkNode 1 none, Cond.classLink RX5 215 "java/lang/IndexOutOfBoundsException", Cond.initialized "java/lang/IndexOutOfBoundsException", Cond.methodLink RX5 84 yX3_hasTownAt, Cond.instanceMethod yX3_hasTownAt, Cond.selects RX3 yX3_hasTownAt yX3_hasTownAt, Cond.initialized RX3, Cond.code yX3_hasTownAt cX3_hasTownAt 3 (some .boolean), Cond.fieldLink RX3 15 "PlateauBench$Nets" "count" "I", Cond.fieldLink RX3 9 "PlateauBench$Nets" "nodes" "[I", Cond.methodLink RX5 88 yX3_isFull, Cond.instanceMethod yX3_isFull, Cond.selects RX3 yX3_isFull yX3_isFull, Cond.code yX3_isFull cX3_isFull 1 (some .boolean), Cond.methodLink RX5 97 yX3_add, Cond.instanceMethod yX3_add, Cond.selects RX3 yX3_add yX3_add, Cond.code yX3_add cX3_add 2 (some .int)]
def wsX5_town_r2 : List Cond := [Cond.methodLink RX3 35 yX3_forget, Cond.instanceMethod yX3_forget, Cond.selects RX3 yX3_forget yX3_forget, Cond.code yX3_forget cX3_forget 1 none, Cond.fieldLink RX3 22 "PlateauBench$Nets" "isJoined" "Z"]
def wsX5_town : List Cond := .code yX5_town cX5_town 2 (some .int) :: ((wsX5_town_r1 ++ wsX5_town_r2) ++ wsX50 ++ wsX30 ++ (vx_atS RX5 96 "java/lang/IllegalStateException" ["java/lang/RuntimeException", "java/lang/Exception"]).filter goodWord ++ (vx_atS RX5 219 "java/lang/IndexOutOfBoundsException" ["java/lang/RuntimeException", "java/lang/Exception"]).filter goodWord)
def wsX5_checkTown : List Cond := .code yX5_checkTown cX5_checkTown 2 none :: ([.classLink RX5 215 "java/lang/IndexOutOfBoundsException", .initialized "java/lang/IndexOutOfBoundsException", .fieldLink RX5 26 "PlateauBench" "nets" "LPlateauBench$Nets;", .methodLink RX5 222 yX3_size, .instanceMethod yX3_size, .selects RX3 yX3_size yX3_size, .initialized RX3, .code yX3_size cX3_size 1 (some .int), .fieldLink RX3 15 "PlateauBench$Nets" "count" "I"] ++ wsX50 ++ wsX30 ++ (vx_atS RX5 219 "java/lang/IndexOutOfBoundsException" ["java/lang/RuntimeException", "java/lang/Exception"]).filter goodWord)
def wsX5_away : List Cond := .code yX5_away cX5_away 2 (some .int) :: ([.fieldLink RX5 26 "PlateauBench" "nets" "LPlateauBench$Nets;", .methodLink RX5 100 yX5_checkTown, .instanceMethod yX5_checkTown, .selects RX5 yX5_checkTown yX5_checkTown, .initialized RX5, .code yX5_checkTown cX5_checkTown 2 none, .classLink RX5 215 "java/lang/IndexOutOfBoundsException", .initialized "java/lang/IndexOutOfBoundsException", .methodLink RX5 222 yX3_size, .instanceMethod yX3_size, .selects RX3 yX3_size yX3_size, .initialized RX3, .code yX3_size cX3_size 1 (some .int), .fieldLink RX3 15 "PlateauBench$Nets" "count" "I", .methodLink RX5 103 yX3_remove, .instanceMethod yX3_remove, .selects RX3 yX3_remove yX3_remove, .code yX3_remove cX3_remove 4 (some .int), .fieldLink RX3 9 "PlateauBench$Nets" "nodes" "[I", .methodLink RX3 35 yX3_forget, .instanceMethod yX3_forget, .selects RX3 yX3_forget yX3_forget, .code yX3_forget cX3_forget 1 none, .fieldLink RX3 22 "PlateauBench$Nets" "isJoined" "Z"] ++ wsX50 ++ wsX30 ++ (vx_atS RX5 219 "java/lang/IndexOutOfBoundsException" ["java/lang/RuntimeException", "java/lang/Exception"]).filter goodWord)
def wsX5_townAt : List Cond := .code yX5_townAt cX5_townAt 2 (some .int) :: ([.fieldLink RX5 26 "PlateauBench" "nets" "LPlateauBench$Nets;", .methodLink RX5 100 yX5_checkTown, .instanceMethod yX5_checkTown, .selects RX5 yX5_checkTown yX5_checkTown, .initialized RX5, .code yX5_checkTown cX5_checkTown 2 none, .classLink RX5 215 "java/lang/IndexOutOfBoundsException", .initialized "java/lang/IndexOutOfBoundsException", .methodLink RX5 222 yX3_size, .instanceMethod yX3_size, .selects RX3 yX3_size yX3_size, .initialized RX3, .code yX3_size cX3_size 1 (some .int), .fieldLink RX3 15 "PlateauBench$Nets" "count" "I", .methodLink RX5 106 yX3_nodeOf, .instanceMethod yX3_nodeOf, .selects RX3 yX3_nodeOf yX3_nodeOf, .code yX3_nodeOf cX3_nodeOf 2 (some .int), .fieldLink RX3 9 "PlateauBench$Nets" "nodes" "[I"] ++ wsX50 ++ wsX30 ++ (vx_atS RX5 219 "java/lang/IndexOutOfBoundsException" ["java/lang/RuntimeException", "java/lang/Exception"]).filter goodWord)
def wsX5_least_r1 : List Cond := [Cond.fieldLink RX5 26 "PlateauBench" "nets" "LPlateauBench$Nets;", Cond.fieldLink RX5 10 "PlateauBench" "grid" "LPlateauBench$Grid;", Cond.methodLink RX5 109 yX3_cheapest, Cond.instanceMethod yX3_cheapest, Cond.selects RX3 yX3_cheapest yX3_cheapest, Cond.initialized RX3, Cond.code yX3_cheapest cX3_cheapest 2 (some .int), Cond.fieldLink RX3 15 "PlateauBench$Nets" "count" "I", Cond.fieldLink RX3 19 "PlateauBench$Nets" "joined" "[I", Cond.fieldLink RX3 9 "PlateauBench$Nets" "nodes" "[I", Cond.methodLink RX3 38 yX3_joinAll, Cond.instanceMethod yX3_joinAll, Cond.selects RX3 yX3_joinAll yX3_joinAll, Cond.code yX3_joinAll cX3_joinAll 4 none, Cond.fieldLink RX3 22 "PlateauBench$Nets" "isJoined" "Z", Cond.methodLink RX3 58 yX2_measure, Cond.instanceMethod yX2_measure, Cond.selects RX2 yX2_measure yX2_measure, Cond.initialized RX2, Cond.code yX2_measure cX2_measure 5 none, Cond.constant RX2 34 (1000000), Cond.methodLink RX2 35 yX2_settle, Cond.instanceMethod yX2_settle, Cond.selects RX2 yX2_settle yX2_settle]
def wsX5_least_r2 : List Cond := [Cond.code yX2_settle cX2_settle 6 none, Cond.methodLink RX2 39 yX2_lower, Cond.instanceMethod yX2_lower, Cond.selects RX2 yX2_lower yX2_lower, Cond.code yX2_lower cX2_lower 7 (some .boolean), Cond.fieldLink RX2 9 "PlateauBench$Grid" "low" "[I", Cond.fieldLink RX2 15 "PlateauBench$Grid" "high" "[I", Cond.fieldLink RX2 24 "PlateauBench$Grid" "prices" "[I", Cond.methodLink RX3 42 yX3_allTowns, Cond.instanceMethod yX3_allTowns, Cond.selects RX3 yX3_allTowns yX3_allTowns, Cond.code yX3_allTowns cX3_allTowns 1 (some .int), Cond.methodLink RX3 62 yJ6_bitCount_0f7a4, Cond.static yJ6_bitCount_0f7a4, Cond.initialized RJ6, Cond.code yJ6_bitCount_0f7a4 cJ6_bitCount_0f7a4 1 (some .int), Cond.constant RJ6 265 (1431655765), Cond.constant RJ6 266 (858993459), Cond.constant RJ6 267 (252645135), Cond.methodLink RX3 67 yX3_joinParts, Cond.instanceMethod yX3_joinParts, Cond.selects RX3 yX3_joinParts yX3_joinParts, Cond.code yX3_joinParts cX3_joinParts 7 none, Cond.constant RX3 75 (1000000)]
def wsX5_least_r3 : List Cond := [Cond.methodLink RX3 76 Lib.Math.min.name, Cond.static Lib.Math.min.name, Cond.initialized "java/lang/Math", Cond.code Lib.Math.min.name Lib.Math.min.code 2 (some .int), Cond.methodLink RX3 71 yX2_settle]
def wsX5_least : List Cond := .code yX5_least cX5_least 1 (some .int) :: ((wsX5_least_r1 ++ (wsX5_least_r2 ++ wsX5_least_r3)) ++ wsX50 ++ wsX30 ++ wsX20)
def wsX5_leastAnew_r1 : List Cond := [Cond.fieldLink RX5 26 "PlateauBench" "nets" "LPlateauBench$Nets;", Cond.fieldLink RX5 10 "PlateauBench" "grid" "LPlateauBench$Grid;", Cond.methodLink RX5 111 yX3_cheapestOfShapes, Cond.instanceMethod yX3_cheapestOfShapes, Cond.selects RX3 yX3_cheapestOfShapes yX3_cheapestOfShapes, Cond.initialized RX3, Cond.code yX3_cheapestOfShapes cX3_cheapestOfShapes 5 (some .int), Cond.fieldLink RX3 15 "PlateauBench$Nets" "count" "I", Cond.constant RX3 75 (1000000), Cond.fieldLink RX3 29 "PlateauBench$Nets" "row" "[I", Cond.methodLink RX3 76 Lib.Math.min.name, Cond.static Lib.Math.min.name, Cond.initialized "java/lang/Math", Cond.code Lib.Math.min.name Lib.Math.min.code 2 (some .int), Cond.methodLink RX3 82 yX3_measureTowns, Cond.instanceMethod yX3_measureTowns, Cond.selects RX3 yX3_measureTowns yX3_measureTowns, Cond.code yX3_measureTowns cX3_measureTowns 3 none, Cond.fieldLink RX3 26 "PlateauBench$Nets" "wayTo" "[I", Cond.fieldLink RX3 9 "PlateauBench$Nets" "nodes" "[I", Cond.methodLink RX3 58 yX2_measure, Cond.instanceMethod yX2_measure, Cond.selects RX2 yX2_measure yX2_measure, Cond.initialized RX2]
def wsX5_leastAnew_r2 : List Cond := [Cond.code yX2_measure cX2_measure 5 none, Cond.constant RX2 34 (1000000), Cond.methodLink RX2 35 yX2_settle, Cond.instanceMethod yX2_settle, Cond.selects RX2 yX2_settle yX2_settle, Cond.code yX2_settle cX2_settle 6 none, Cond.methodLink RX2 39 yX2_lower, Cond.instanceMethod yX2_lower, Cond.selects RX2 yX2_lower yX2_lower, Cond.code yX2_lower cX2_lower 7 (some .boolean), Cond.fieldLink RX2 9 "PlateauBench$Grid" "low" "[I", Cond.fieldLink RX2 15 "PlateauBench$Grid" "high" "[I", Cond.fieldLink RX2 24 "PlateauBench$Grid" "prices" "[I", Cond.methodLink RX3 85 yX3_hungOn, Cond.instanceMethod yX3_hungOn, Cond.selects RX3 yX3_hungOn yX3_hungOn, Cond.code yX3_hungOn cX3_hungOn 5 (some .int)]
def wsX5_leastAnew : List Cond := .code yX5_leastAnew cX5_leastAnew 1 (some .int) :: ((wsX5_leastAnew_r1 ++ wsX5_leastAnew_r2) ++ wsX50 ++ wsX30 ++ wsX20)
def wsX5_bound_r1 : List Cond := [Cond.fieldLink RX5 26 "PlateauBench" "nets" "LPlateauBench$Nets;", Cond.fieldLink RX5 10 "PlateauBench" "grid" "LPlateauBench$Grid;", Cond.methodLink RX5 114 yX3_lowerBound, Cond.instanceMethod yX3_lowerBound, Cond.selects RX3 yX3_lowerBound yX3_lowerBound, Cond.initialized RX3, Cond.code yX3_lowerBound cX3_lowerBound 2 (some .int), Cond.fieldLink RX3 15 "PlateauBench$Nets" "count" "I", Cond.methodLink RX3 100 Lib.Math.max.name, Cond.static Lib.Math.max.name, Cond.initialized "java/lang/Math", Cond.code Lib.Math.max.name Lib.Math.max.code 2 (some .int), Cond.methodLink RX3 82 yX3_measureTowns, Cond.instanceMethod yX3_measureTowns, Cond.selects RX3 yX3_measureTowns yX3_measureTowns, Cond.code yX3_measureTowns cX3_measureTowns 3 none, Cond.fieldLink RX3 26 "PlateauBench$Nets" "wayTo" "[I", Cond.fieldLink RX3 9 "PlateauBench$Nets" "nodes" "[I", Cond.methodLink RX3 58 yX2_measure, Cond.instanceMethod yX2_measure, Cond.selects RX2 yX2_measure yX2_measure, Cond.initialized RX2, Cond.code yX2_measure cX2_measure 5 none, Cond.constant RX2 34 (1000000)]
def wsX5_bound_r2 : List Cond := [Cond.methodLink RX2 35 yX2_settle, Cond.instanceMethod yX2_settle, Cond.selects RX2 yX2_settle yX2_settle, Cond.code yX2_settle cX2_settle 6 none, Cond.methodLink RX2 39 yX2_lower, Cond.instanceMethod yX2_lower, Cond.selects RX2 yX2_lower yX2_lower, Cond.code yX2_lower cX2_lower 7 (some .boolean), Cond.fieldLink RX2 9 "PlateauBench$Grid" "low" "[I", Cond.fieldLink RX2 15 "PlateauBench$Grid" "high" "[I", Cond.fieldLink RX2 24 "PlateauBench$Grid" "prices" "[I", Cond.methodLink RX3 88 yX3_cheapestPairs, Cond.instanceMethod yX3_cheapestPairs, Cond.selects RX3 yX3_cheapestPairs yX3_cheapestPairs, Cond.code yX3_cheapestPairs cX3_cheapestPairs 5 (some .int), Cond.fieldLink RX3 32 "PlateauBench$Nets" "reach" "[I", Cond.methodLink RX3 76 Lib.Math.min.name, Cond.static Lib.Math.min.name, Cond.code Lib.Math.min.name Lib.Math.min.code 2 (some .int), Cond.methodLink RX3 103 yX3_between, Cond.instanceMethod yX3_between, Cond.selects RX3 yX3_between yX3_between, Cond.code yX3_between cX3_between 3 (some .int), Cond.methodLink RX3 106 yX3_nearestOutside]
def wsX5_bound_r3 : List Cond := [Cond.instanceMethod yX3_nearestOutside, Cond.selects RX3 yX3_nearestOutside yX3_nearestOutside, Cond.code yX3_nearestOutside cX3_nearestOutside 3 (some .int), Cond.methodLink RX3 91 yX3_halfUp, Cond.static yX3_halfUp, Cond.code yX3_halfUp cX3_halfUp 1 (some .int), Cond.methodLink RX3 94 yX3_farthestPair, Cond.instanceMethod yX3_farthestPair, Cond.selects RX3 yX3_farthestPair yX3_farthestPair, Cond.code yX3_farthestPair cX3_farthestPair 4 (some .int), Cond.methodLink RX3 97 yX3_farthestThree, Cond.instanceMethod yX3_farthestThree, Cond.selects RX3 yX3_farthestThree yX3_farthestThree, Cond.code yX3_farthestThree cX3_farthestThree 5 (some .int)]
def wsX5_bound : List Cond := .code yX5_bound cX5_bound 1 (some .int) :: ((wsX5_bound_r1 ++ (wsX5_bound_r2 ++ wsX5_bound_r3)) ++ wsX50 ++ wsX30 ++ wsX20)
def wsX5_gap_r1 : List Cond := [Cond.fieldLink RX5 26 "PlateauBench" "nets" "LPlateauBench$Nets;", Cond.fieldLink RX5 10 "PlateauBench" "grid" "LPlateauBench$Grid;", Cond.methodLink RX5 109 yX3_cheapest, Cond.instanceMethod yX3_cheapest, Cond.selects RX3 yX3_cheapest yX3_cheapest, Cond.initialized RX3, Cond.code yX3_cheapest cX3_cheapest 2 (some .int), Cond.fieldLink RX3 15 "PlateauBench$Nets" "count" "I", Cond.fieldLink RX3 19 "PlateauBench$Nets" "joined" "[I", Cond.fieldLink RX3 9 "PlateauBench$Nets" "nodes" "[I", Cond.methodLink RX3 38 yX3_joinAll, Cond.instanceMethod yX3_joinAll, Cond.selects RX3 yX3_joinAll yX3_joinAll, Cond.code yX3_joinAll cX3_joinAll 4 none, Cond.fieldLink RX3 22 "PlateauBench$Nets" "isJoined" "Z", Cond.methodLink RX3 58 yX2_measure, Cond.instanceMethod yX2_measure, Cond.selects RX2 yX2_measure yX2_measure, Cond.initialized RX2, Cond.code yX2_measure cX2_measure 5 none, Cond.constant RX2 34 (1000000), Cond.methodLink RX2 35 yX2_settle, Cond.instanceMethod yX2_settle, Cond.selects RX2 yX2_settle yX2_settle]
def wsX5_gap_r2 : List Cond := [Cond.code yX2_settle cX2_settle 6 none, Cond.methodLink RX2 39 yX2_lower, Cond.instanceMethod yX2_lower, Cond.selects RX2 yX2_lower yX2_lower, Cond.code yX2_lower cX2_lower 7 (some .boolean), Cond.fieldLink RX2 9 "PlateauBench$Grid" "low" "[I", Cond.fieldLink RX2 15 "PlateauBench$Grid" "high" "[I", Cond.fieldLink RX2 24 "PlateauBench$Grid" "prices" "[I", Cond.methodLink RX3 42 yX3_allTowns, Cond.instanceMethod yX3_allTowns, Cond.selects RX3 yX3_allTowns yX3_allTowns, Cond.code yX3_allTowns cX3_allTowns 1 (some .int), Cond.methodLink RX3 62 yJ6_bitCount_0f7a4, Cond.static yJ6_bitCount_0f7a4, Cond.initialized RJ6, Cond.code yJ6_bitCount_0f7a4 cJ6_bitCount_0f7a4 1 (some .int), Cond.constant RJ6 265 (1431655765), Cond.constant RJ6 266 (858993459), Cond.constant RJ6 267 (252645135), Cond.methodLink RX3 67 yX3_joinParts, Cond.instanceMethod yX3_joinParts, Cond.selects RX3 yX3_joinParts yX3_joinParts, Cond.code yX3_joinParts cX3_joinParts 7 none, Cond.constant RX3 75 (1000000)]
def wsX5_gap_r3 : List Cond := [Cond.methodLink RX3 76 Lib.Math.min.name, Cond.static Lib.Math.min.name, Cond.initialized "java/lang/Math", Cond.code Lib.Math.min.name Lib.Math.min.code 2 (some .int), Cond.methodLink RX3 71 yX2_settle, Cond.methodLink RX5 114 yX3_lowerBound, Cond.instanceMethod yX3_lowerBound, Cond.selects RX3 yX3_lowerBound yX3_lowerBound, Cond.code yX3_lowerBound cX3_lowerBound 2 (some .int), Cond.methodLink RX3 100 Lib.Math.max.name, Cond.static Lib.Math.max.name, Cond.code Lib.Math.max.name Lib.Math.max.code 2 (some .int), Cond.methodLink RX3 82 yX3_measureTowns, Cond.instanceMethod yX3_measureTowns, Cond.selects RX3 yX3_measureTowns yX3_measureTowns, Cond.code yX3_measureTowns cX3_measureTowns 3 none, Cond.fieldLink RX3 26 "PlateauBench$Nets" "wayTo" "[I", Cond.methodLink RX3 88 yX3_cheapestPairs, Cond.instanceMethod yX3_cheapestPairs, Cond.selects RX3 yX3_cheapestPairs yX3_cheapestPairs, Cond.code yX3_cheapestPairs cX3_cheapestPairs 5 (some .int), Cond.fieldLink RX3 32 "PlateauBench$Nets" "reach" "[I", Cond.methodLink RX3 103 yX3_between, Cond.instanceMethod yX3_between]
def wsX5_gap_r4 : List Cond := [Cond.selects RX3 yX3_between yX3_between, Cond.code yX3_between cX3_between 3 (some .int), Cond.methodLink RX3 106 yX3_nearestOutside, Cond.instanceMethod yX3_nearestOutside, Cond.selects RX3 yX3_nearestOutside yX3_nearestOutside, Cond.code yX3_nearestOutside cX3_nearestOutside 3 (some .int), Cond.methodLink RX3 91 yX3_halfUp, Cond.static yX3_halfUp, Cond.code yX3_halfUp cX3_halfUp 1 (some .int), Cond.methodLink RX3 94 yX3_farthestPair, Cond.instanceMethod yX3_farthestPair, Cond.selects RX3 yX3_farthestPair yX3_farthestPair, Cond.code yX3_farthestPair cX3_farthestPair 4 (some .int), Cond.methodLink RX3 97 yX3_farthestThree, Cond.instanceMethod yX3_farthestThree, Cond.selects RX3 yX3_farthestThree yX3_farthestThree, Cond.code yX3_farthestThree cX3_farthestThree 5 (some .int)]
def wsX5_gap : List Cond := .code yX5_gap cX5_gap 1 (some .int) :: ((wsX5_gap_r1 ++ (wsX5_gap_r2 ++ (wsX5_gap_r3 ++ wsX5_gap_r4))) ++ wsX50 ++ wsX30 ++ wsX20)
def wsX5_isUsed_r1 : List Cond := [Cond.fieldLink RX5 26 "PlateauBench" "nets" "LPlateauBench$Nets;", Cond.fieldLink RX5 10 "PlateauBench" "grid" "LPlateauBench$Grid;", Cond.methodLink RX5 65 yX5_checkEdge, Cond.static yX5_checkEdge, Cond.initialized RX5, Cond.code yX5_checkEdge cX5_checkEdge 1 none, Cond.classLink RX5 215 "java/lang/IndexOutOfBoundsException", Cond.initialized "java/lang/IndexOutOfBoundsException", Cond.methodLink RX5 117 yX3_isInCheapest, Cond.instanceMethod yX3_isInCheapest, Cond.selects RX3 yX3_isInCheapest yX3_isInCheapest, Cond.initialized RX3, Cond.code yX3_isInCheapest cX3_isInCheapest 9 (some .boolean), Cond.fieldLink RX3 15 "PlateauBench$Nets" "count" "I", Cond.fieldLink RX3 19 "PlateauBench$Nets" "joined" "[I", Cond.fieldLink RX3 9 "PlateauBench$Nets" "nodes" "[I", Cond.methodLink RX3 38 yX3_joinAll, Cond.instanceMethod yX3_joinAll, Cond.selects RX3 yX3_joinAll yX3_joinAll, Cond.code yX3_joinAll cX3_joinAll 4 none, Cond.fieldLink RX3 22 "PlateauBench$Nets" "isJoined" "Z", Cond.methodLink RX3 58 yX2_measure, Cond.instanceMethod yX2_measure, Cond.selects RX2 yX2_measure yX2_measure]
def wsX5_isUsed_r2 : List Cond := [Cond.initialized RX2, Cond.code yX2_measure cX2_measure 5 none, Cond.constant RX2 34 (1000000), Cond.methodLink RX2 35 yX2_settle, Cond.instanceMethod yX2_settle, Cond.selects RX2 yX2_settle yX2_settle, Cond.code yX2_settle cX2_settle 6 none, Cond.methodLink RX2 39 yX2_lower, Cond.instanceMethod yX2_lower, Cond.selects RX2 yX2_lower yX2_lower, Cond.code yX2_lower cX2_lower 7 (some .boolean), Cond.fieldLink RX2 9 "PlateauBench$Grid" "low" "[I", Cond.fieldLink RX2 15 "PlateauBench$Grid" "high" "[I", Cond.fieldLink RX2 24 "PlateauBench$Grid" "prices" "[I", Cond.methodLink RX3 42 yX3_allTowns, Cond.instanceMethod yX3_allTowns, Cond.selects RX3 yX3_allTowns yX3_allTowns, Cond.code yX3_allTowns cX3_allTowns 1 (some .int), Cond.methodLink RX3 62 yJ6_bitCount_0f7a4, Cond.static yJ6_bitCount_0f7a4, Cond.initialized RJ6, Cond.code yJ6_bitCount_0f7a4 cJ6_bitCount_0f7a4 1 (some .int), Cond.constant RJ6 265 (1431655765), Cond.constant RJ6 266 (858993459)]
def wsX5_isUsed_r3 : List Cond := [Cond.constant RJ6 267 (252645135), Cond.methodLink RX3 67 yX3_joinParts, Cond.instanceMethod yX3_joinParts, Cond.selects RX3 yX3_joinParts yX3_joinParts, Cond.code yX3_joinParts cX3_joinParts 7 none, Cond.constant RX3 75 (1000000), Cond.methodLink RX3 76 Lib.Math.min.name, Cond.static Lib.Math.min.name, Cond.initialized "java/lang/Math", Cond.code Lib.Math.min.name Lib.Math.min.code 2 (some .int), Cond.methodLink RX3 71 yX2_settle, Cond.methodLink RX3 46 yX2_low, Cond.instanceMethod yX2_low, Cond.selects RX2 yX2_low yX2_low, Cond.code yX2_low cX2_low 2 (some .int), Cond.methodLink RX3 52 yX2_high, Cond.instanceMethod yX2_high, Cond.selects RX2 yX2_high yX2_high, Cond.code yX2_high cX2_high 2 (some .int), Cond.methodLink RX3 55 yX2_price, Cond.instanceMethod yX2_price, Cond.selects RX2 yX2_price yX2_price, Cond.code yX2_price cX2_price 2 (some .int)]
def wsX5_isUsed : List Cond := .code yX5_isUsed cX5_isUsed 2 (some .boolean) :: ((wsX5_isUsed_r1 ++ (wsX5_isUsed_r2 ++ wsX5_isUsed_r3)) ++ wsX50 ++ wsX30 ++ wsX20 ++ (vx_atS RX5 219 "java/lang/IndexOutOfBoundsException" ["java/lang/RuntimeException", "java/lang/Exception"]).filter goodWord)
def wsX5_twoWays_r1 : List Cond := [Cond.classLink RX5 44 "java/lang/IllegalArgumentException", Cond.initialized "java/lang/IllegalArgumentException", Cond.fieldLink RX5 19 "PlateauBench" "ways" "LPlateauBench$TwoWays;", Cond.fieldLink RX5 10 "PlateauBench" "grid" "LPlateauBench$Grid;", Cond.methodLink RX5 77 yX5_checkNode, Cond.static yX5_checkNode, Cond.initialized RX5, Cond.code yX5_checkNode cX5_checkNode 1 none, Cond.classLink RX5 215 "java/lang/IndexOutOfBoundsException", Cond.initialized "java/lang/IndexOutOfBoundsException", Cond.methodLink RX5 123 yX4_cheapestPair, Cond.instanceMethod yX4_cheapestPair, Cond.selects RX4 yX4_cheapestPair yX4_cheapestPair, Cond.initialized RX4, Cond.code yX4_cheapestPair cX4_cheapestPair 5 (some .int), Cond.fieldLink RX4 9 "PlateauBench$TwoWays" "row" "[I", Cond.methodLink RX4 24 yX4_cheapest, Cond.instanceMethod yX4_cheapest, Cond.selects RX4 yX4_cheapest yX4_cheapest, Cond.code yX4_cheapest cX4_cheapest 4 (some .int), Cond.methodLink RX4 18 yX2_measure, Cond.instanceMethod yX2_measure, Cond.selects RX2 yX2_measure yX2_measure, Cond.initialized RX2]
def wsX5_twoWays_r2 : List Cond := [Cond.code yX2_measure cX2_measure 5 none, Cond.constant RX2 34 (1000000), Cond.methodLink RX2 35 yX2_settle, Cond.instanceMethod yX2_settle, Cond.selects RX2 yX2_settle yX2_settle, Cond.code yX2_settle cX2_settle 6 none, Cond.methodLink RX2 39 yX2_lower, Cond.instanceMethod yX2_lower, Cond.selects RX2 yX2_lower yX2_lower, Cond.code yX2_lower cX2_lower 7 (some .boolean), Cond.fieldLink RX2 9 "PlateauBench$Grid" "low" "[I", Cond.fieldLink RX2 15 "PlateauBench$Grid" "high" "[I", Cond.fieldLink RX2 24 "PlateauBench$Grid" "prices" "[I", Cond.methodLink RX4 28 yX4_takeWayBack, Cond.instanceMethod yX4_takeWayBack, Cond.selects RX4 yX4_takeWayBack yX4_takeWayBack, Cond.code yX4_takeWayBack cX4_takeWayBack 5 none, Cond.fieldLink RX4 15 "PlateauBench$TwoWays" "taken" "[I", Cond.methodLink RX4 35 yX4_stepBack, Cond.instanceMethod yX4_stepBack, Cond.selects RX4 yX4_stepBack yX4_stepBack, Cond.code yX4_stepBack cX4_stepBack 6 (some .int), Cond.methodLink RX4 39 yX2_beside, Cond.instanceMethod yX2_beside]
def wsX5_twoWays_r3 : List Cond := [Cond.selects RX2 yX2_beside yX2_beside, Cond.code yX2_beside cX2_beside 3 (some .int), Cond.fieldLink RX2 18 "PlateauBench$Grid" "beside" "[I", Cond.methodLink RX4 43 yX2_otherEnd, Cond.instanceMethod yX2_otherEnd, Cond.selects RX2 yX2_otherEnd yX2_otherEnd, Cond.code yX2_otherEnd cX2_otherEnd 3 (some .int), Cond.methodLink RX4 46 yX2_price, Cond.instanceMethod yX2_price, Cond.selects RX2 yX2_price yX2_price, Cond.code yX2_price cX2_price 2 (some .int), Cond.methodLink RX4 32 yX4_measureBesideTaken, Cond.instanceMethod yX4_measureBesideTaken, Cond.selects RX4 yX4_measureBesideTaken yX4_measureBesideTaken, Cond.code yX4_measureBesideTaken cX4_measureBesideTaken 8 none, Cond.constant RX4 50 (1000000), Cond.methodLink RX4 51 yX2_low, Cond.instanceMethod yX2_low, Cond.selects RX2 yX2_low yX2_low, Cond.code yX2_low cX2_low 2 (some .int), Cond.methodLink RX4 54 yX2_high, Cond.instanceMethod yX2_high, Cond.selects RX2 yX2_high yX2_high, Cond.code yX2_high cX2_high 2 (some .int)]
def wsX5_twoWays_r4 : List Cond := [Cond.methodLink RX4 57 yX4_lower, Cond.instanceMethod yX4_lower, Cond.selects RX4 yX4_lower yX4_lower, Cond.code yX4_lower cX4_lower 7 (some .boolean)]
def wsX5_twoWays : List Cond := .code yX5_twoWays cX5_twoWays 3 (some .int) :: ((wsX5_twoWays_r1 ++ (wsX5_twoWays_r2 ++ (wsX5_twoWays_r3 ++ wsX5_twoWays_r4))) ++ wsX50 ++ wsX40 ++ wsX20 ++ (vx_atS RX5 48 "java/lang/IllegalArgumentException" ["java/lang/RuntimeException", "java/lang/Exception"]).filter goodWord ++ (vx_atS RX5 219 "java/lang/IndexOutOfBoundsException" ["java/lang/RuntimeException", "java/lang/Exception"]).filter goodWord)
def wsX5_pin : List Cond := .code yX5_pin cX5_pin 3 (some .int) :: ([.classLink RX5 44 "java/lang/IllegalArgumentException", .initialized "java/lang/IllegalArgumentException", .fieldLink RX5 33 "PlateauBench" "films" "LPlateauBench$Films;", .methodLink RX5 77 yX5_checkNode, .static yX5_checkNode, .initialized RX5, .code yX5_checkNode cX5_checkNode 1 none, .classLink RX5 215 "java/lang/IndexOutOfBoundsException", .initialized "java/lang/IndexOutOfBoundsException", .methodLink RX5 128 yX0_change, .instanceMethod yX0_change, .selects RX0 yX0_change yX0_change, .initialized RX0, .code yX0_change cX0_change 4 (some .int), .fieldLink RX0 9 "PlateauBench$Films" "pinned" "[I"] ++ wsX50 ++ wsX00 ++ (vx_atS RX5 48 "java/lang/IllegalArgumentException" ["java/lang/RuntimeException", "java/lang/Exception"]).filter goodWord ++ (vx_atS RX5 219 "java/lang/IndexOutOfBoundsException" ["java/lang/RuntimeException", "java/lang/Exception"]).filter goodWord)
def wsX5_film_r1 : List Cond := [Cond.fieldLink RX5 33 "PlateauBench" "films" "LPlateauBench$Films;", Cond.fieldLink RX5 10 "PlateauBench" "grid" "LPlateauBench$Grid;", Cond.methodLink RX5 131 yX0_smallest, Cond.instanceMethod yX0_smallest, Cond.selects RX0 yX0_smallest yX0_smallest, Cond.initialized RX0, Cond.code yX0_smallest cX0_smallest 2 (some .long), Cond.methodLink RX0 40 yX0_fillField, Cond.instanceMethod yX0_fillField, Cond.selects RX0 yX0_fillField yX0_fillField, Cond.code yX0_fillField cX0_fillField 5 none, Cond.fieldLink RX0 15 "PlateauBench$Films" "flow" "[I", Cond.methodLink RX0 44 yX0_search, Cond.instanceMethod yX0_search, Cond.selects RX0 yX0_search yX0_search, Cond.code yX0_search cX0_search 5 (some .int), Cond.fieldLink RX0 18 "PlateauBench$Films" "cameBy" "[I", Cond.fieldLink RX0 9 "PlateauBench$Films" "pinned" "[I", Cond.fieldLink RX0 21 "PlateauBench$Films" "queue" "[I", Cond.methodLink RX0 66 yX0_searchBeside, Cond.instanceMethod yX0_searchBeside, Cond.selects RX0 yX0_searchBeside yX0_searchBeside, Cond.code yX0_searchBeside cX0_searchBeside 10 (some .int), Cond.methodLink RX0 70 yX2_beside]
def wsX5_film_r2 : List Cond := [Cond.instanceMethod yX2_beside, Cond.selects RX2 yX2_beside yX2_beside, Cond.initialized RX2, Cond.code yX2_beside cX2_beside 3 (some .int), Cond.fieldLink RX2 18 "PlateauBench$Grid" "beside" "[I", Cond.methodLink RX0 74 yX2_otherEnd, Cond.instanceMethod yX2_otherEnd, Cond.selects RX2 yX2_otherEnd yX2_otherEnd, Cond.code yX2_otherEnd cX2_otherEnd 3 (some .int), Cond.fieldLink RX2 9 "PlateauBench$Grid" "low" "[I", Cond.fieldLink RX2 15 "PlateauBench$Grid" "high" "[I", Cond.methodLink RX0 77 yX0_leftFrom, Cond.instanceMethod yX0_leftFrom, Cond.selects RX0 yX0_leftFrom yX0_leftFrom, Cond.code yX0_leftFrom cX0_leftFrom 4 (some .int), Cond.methodLink RX0 37 yX2_price, Cond.instanceMethod yX2_price, Cond.selects RX2 yX2_price yX2_price, Cond.code yX2_price cX2_price 2 (some .int), Cond.fieldLink RX2 24 "PlateauBench$Grid" "prices" "[I", Cond.methodLink RX0 28 yX2_low, Cond.instanceMethod yX2_low, Cond.selects RX2 yX2_low yX2_low, Cond.code yX2_low cX2_low 2 (some .int)]
def wsX5_film_r3 : List Cond := [Cond.methodLink RX0 56 yX0_nearestOutside, Cond.instanceMethod yX0_nearestOutside, Cond.selects RX0 yX0_nearestOutside yX0_nearestOutside, Cond.code yX0_nearestOutside cX0_nearestOutside 3 (some .int), Cond.methodLink RX0 59 yX0_mostAlong, Cond.instanceMethod yX0_mostAlong, Cond.selects RX0 yX0_mostAlong yX0_mostAlong, Cond.code yX0_mostAlong cX0_mostAlong 7 (some .int), Cond.constant RX0 81 (1000000), Cond.methodLink RX0 82 Lib.Math.min.name, Cond.static Lib.Math.min.name, Cond.initialized "java/lang/Math", Cond.code Lib.Math.min.name Lib.Math.min.code 2 (some .int), Cond.methodLink RX0 62 yX0_push, Cond.instanceMethod yX0_push, Cond.selects RX0 yX0_push yX0_push, Cond.code yX0_push cX0_push 7 none, Cond.methodLink RX0 48 yX0_reached, Cond.instanceMethod yX0_reached, Cond.selects RX0 yX0_reached yX0_reached, Cond.code yX0_reached cX0_reached 4 (some .long), Cond.methodLink RX5 135 yX0_priceOf, Cond.instanceMethod yX0_priceOf, Cond.selects RX0 yX0_priceOf yX0_priceOf]
def wsX5_film_r4 : List Cond := [Cond.code yX0_priceOf cX0_priceOf 6 (some .int), Cond.methodLink RX0 24 yX0_has, Cond.static yX0_has, Cond.code yX0_has cX0_has 3 (some .boolean), Cond.methodLink RX0 34 yX2_high, Cond.instanceMethod yX2_high, Cond.selects RX2 yX2_high yX2_high, Cond.code yX2_high cX2_high 2 (some .int)]
def wsX5_film : List Cond := .code yX5_film cX5_film 1 (some .int) :: ((wsX5_film_r1 ++ (wsX5_film_r2 ++ (wsX5_film_r3 ++ wsX5_film_r4))) ++ wsX50 ++ wsX00 ++ wsX20)
def wsX5_proof_r1 : List Cond := [Cond.fieldLink RX5 33 "PlateauBench" "films" "LPlateauBench$Films;", Cond.fieldLink RX5 10 "PlateauBench" "grid" "LPlateauBench$Grid;", Cond.methodLink RX5 139 yX0_proved, Cond.instanceMethod yX0_proved, Cond.selects RX0 yX0_proved yX0_proved, Cond.initialized RX0, Cond.code yX0_proved cX0_proved 4 (some .int), Cond.fieldLink RX0 9 "PlateauBench$Films" "pinned" "[I", Cond.fieldLink RX0 15 "PlateauBench$Films" "flow" "[I", Cond.methodLink RX0 40 yX0_fillField, Cond.instanceMethod yX0_fillField, Cond.selects RX0 yX0_fillField yX0_fillField, Cond.code yX0_fillField cX0_fillField 5 none, Cond.methodLink RX0 44 yX0_search, Cond.instanceMethod yX0_search, Cond.selects RX0 yX0_search yX0_search, Cond.code yX0_search cX0_search 5 (some .int), Cond.fieldLink RX0 18 "PlateauBench$Films" "cameBy" "[I", Cond.fieldLink RX0 21 "PlateauBench$Films" "queue" "[I", Cond.methodLink RX0 66 yX0_searchBeside, Cond.instanceMethod yX0_searchBeside, Cond.selects RX0 yX0_searchBeside yX0_searchBeside, Cond.code yX0_searchBeside cX0_searchBeside 10 (some .int), Cond.methodLink RX0 70 yX2_beside]
def wsX5_proof_r2 : List Cond := [Cond.instanceMethod yX2_beside, Cond.selects RX2 yX2_beside yX2_beside, Cond.initialized RX2, Cond.code yX2_beside cX2_beside 3 (some .int), Cond.fieldLink RX2 18 "PlateauBench$Grid" "beside" "[I", Cond.methodLink RX0 74 yX2_otherEnd, Cond.instanceMethod yX2_otherEnd, Cond.selects RX2 yX2_otherEnd yX2_otherEnd, Cond.code yX2_otherEnd cX2_otherEnd 3 (some .int), Cond.fieldLink RX2 9 "PlateauBench$Grid" "low" "[I", Cond.fieldLink RX2 15 "PlateauBench$Grid" "high" "[I", Cond.methodLink RX0 77 yX0_leftFrom, Cond.instanceMethod yX0_leftFrom, Cond.selects RX0 yX0_leftFrom yX0_leftFrom, Cond.code yX0_leftFrom cX0_leftFrom 4 (some .int), Cond.methodLink RX0 37 yX2_price, Cond.instanceMethod yX2_price, Cond.selects RX2 yX2_price yX2_price, Cond.code yX2_price cX2_price 2 (some .int), Cond.fieldLink RX2 24 "PlateauBench$Grid" "prices" "[I", Cond.methodLink RX0 28 yX2_low, Cond.instanceMethod yX2_low, Cond.selects RX2 yX2_low yX2_low, Cond.code yX2_low cX2_low 2 (some .int)]
def wsX5_proof_r3 : List Cond := [Cond.methodLink RX0 56 yX0_nearestOutside, Cond.instanceMethod yX0_nearestOutside, Cond.selects RX0 yX0_nearestOutside yX0_nearestOutside, Cond.code yX0_nearestOutside cX0_nearestOutside 3 (some .int), Cond.methodLink RX0 59 yX0_mostAlong, Cond.instanceMethod yX0_mostAlong, Cond.selects RX0 yX0_mostAlong yX0_mostAlong, Cond.code yX0_mostAlong cX0_mostAlong 7 (some .int), Cond.constant RX0 81 (1000000), Cond.methodLink RX0 82 Lib.Math.min.name, Cond.static Lib.Math.min.name, Cond.initialized "java/lang/Math", Cond.code Lib.Math.min.name Lib.Math.min.code 2 (some .int), Cond.methodLink RX0 62 yX0_push, Cond.instanceMethod yX0_push, Cond.selects RX0 yX0_push yX0_push, Cond.code yX0_push cX0_push 7 none, Cond.methodLink RX0 34 yX2_high, Cond.instanceMethod yX2_high, Cond.selects RX2 yX2_high yX2_high, Cond.code yX2_high cX2_high 2 (some .int)]
def wsX5_proof : List Cond := .code yX5_proof cX5_proof 1 (some .int) :: ((wsX5_proof_r1 ++ (wsX5_proof_r2 ++ wsX5_proof_r3)) ++ wsX50 ++ wsX00 ++ wsX20)
def wsX5_side_r1 : List Cond := [Cond.fieldLink RX5 33 "PlateauBench" "films" "LPlateauBench$Films;", Cond.fieldLink RX5 10 "PlateauBench" "grid" "LPlateauBench$Grid;", Cond.methodLink RX5 142 yX0_greatest, Cond.instanceMethod yX0_greatest, Cond.selects RX0 yX0_greatest yX0_greatest, Cond.initialized RX0, Cond.code yX0_greatest cX0_greatest 2 (some .long), Cond.constantLong RX0 52 (68719476735), Cond.constantLong RX0 54 (-1), Cond.methodLink RX0 40 yX0_fillField, Cond.instanceMethod yX0_fillField, Cond.selects RX0 yX0_fillField yX0_fillField, Cond.code yX0_fillField cX0_fillField 5 none, Cond.fieldLink RX0 15 "PlateauBench$Films" "flow" "[I", Cond.methodLink RX0 44 yX0_search, Cond.instanceMethod yX0_search, Cond.selects RX0 yX0_search yX0_search, Cond.code yX0_search cX0_search 5 (some .int), Cond.fieldLink RX0 18 "PlateauBench$Films" "cameBy" "[I", Cond.fieldLink RX0 9 "PlateauBench$Films" "pinned" "[I", Cond.fieldLink RX0 21 "PlateauBench$Films" "queue" "[I", Cond.methodLink RX0 66 yX0_searchBeside, Cond.instanceMethod yX0_searchBeside, Cond.selects RX0 yX0_searchBeside yX0_searchBeside]
def wsX5_side_r2 : List Cond := [Cond.code yX0_searchBeside cX0_searchBeside 10 (some .int), Cond.methodLink RX0 70 yX2_beside, Cond.instanceMethod yX2_beside, Cond.selects RX2 yX2_beside yX2_beside, Cond.initialized RX2, Cond.code yX2_beside cX2_beside 3 (some .int), Cond.fieldLink RX2 18 "PlateauBench$Grid" "beside" "[I", Cond.methodLink RX0 74 yX2_otherEnd, Cond.instanceMethod yX2_otherEnd, Cond.selects RX2 yX2_otherEnd yX2_otherEnd, Cond.code yX2_otherEnd cX2_otherEnd 3 (some .int), Cond.fieldLink RX2 9 "PlateauBench$Grid" "low" "[I", Cond.fieldLink RX2 15 "PlateauBench$Grid" "high" "[I", Cond.methodLink RX0 77 yX0_leftFrom, Cond.instanceMethod yX0_leftFrom, Cond.selects RX0 yX0_leftFrom yX0_leftFrom, Cond.code yX0_leftFrom cX0_leftFrom 4 (some .int), Cond.methodLink RX0 37 yX2_price, Cond.instanceMethod yX2_price, Cond.selects RX2 yX2_price yX2_price, Cond.code yX2_price cX2_price 2 (some .int), Cond.fieldLink RX2 24 "PlateauBench$Grid" "prices" "[I", Cond.methodLink RX0 28 yX2_low, Cond.instanceMethod yX2_low]
def wsX5_side_r3 : List Cond := [Cond.selects RX2 yX2_low yX2_low, Cond.code yX2_low cX2_low 2 (some .int), Cond.methodLink RX0 56 yX0_nearestOutside, Cond.instanceMethod yX0_nearestOutside, Cond.selects RX0 yX0_nearestOutside yX0_nearestOutside, Cond.code yX0_nearestOutside cX0_nearestOutside 3 (some .int), Cond.methodLink RX0 59 yX0_mostAlong, Cond.instanceMethod yX0_mostAlong, Cond.selects RX0 yX0_mostAlong yX0_mostAlong, Cond.code yX0_mostAlong cX0_mostAlong 7 (some .int), Cond.constant RX0 81 (1000000), Cond.methodLink RX0 82 Lib.Math.min.name, Cond.static Lib.Math.min.name, Cond.initialized "java/lang/Math", Cond.code Lib.Math.min.name Lib.Math.min.code 2 (some .int), Cond.methodLink RX0 62 yX0_push, Cond.instanceMethod yX0_push, Cond.selects RX0 yX0_push yX0_push, Cond.code yX0_push cX0_push 7 none, Cond.methodLink RX0 48 yX0_reached, Cond.instanceMethod yX0_reached, Cond.selects RX0 yX0_reached yX0_reached, Cond.code yX0_reached cX0_reached 4 (some .long), Cond.methodLink RX5 131 yX0_smallest]
def wsX5_side_r4 : List Cond := [Cond.instanceMethod yX0_smallest, Cond.selects RX0 yX0_smallest yX0_smallest, Cond.code yX0_smallest cX0_smallest 2 (some .long)]
def wsX5_side : List Cond := .code yX5_side cX5_side 2 (some .long) :: ((wsX5_side_r1 ++ (wsX5_side_r2 ++ (wsX5_side_r3 ++ wsX5_side_r4))) ++ wsX50 ++ wsX00 ++ wsX20)
def wsX5_costOf_r1 : List Cond := [Cond.classLink RX5 44 "java/lang/IllegalArgumentException", Cond.initialized "java/lang/IllegalArgumentException", Cond.fieldLink RX5 33 "PlateauBench" "films" "LPlateauBench$Films;", Cond.fieldLink RX5 10 "PlateauBench" "grid" "LPlateauBench$Grid;", Cond.methodLink RX5 147 yX0_isFilm, Cond.instanceMethod yX0_isFilm, Cond.selects RX0 yX0_isFilm yX0_isFilm, Cond.initialized RX0, Cond.code yX0_isFilm cX0_isFilm 4 (some .boolean), Cond.fieldLink RX0 9 "PlateauBench$Films" "pinned" "[I", Cond.methodLink RX0 24 yX0_has, Cond.static yX0_has, Cond.code yX0_has cX0_has 3 (some .boolean), Cond.methodLink RX5 135 yX0_priceOf, Cond.instanceMethod yX0_priceOf, Cond.selects RX0 yX0_priceOf yX0_priceOf, Cond.code yX0_priceOf cX0_priceOf 6 (some .int), Cond.methodLink RX0 28 yX2_low, Cond.instanceMethod yX2_low, Cond.selects RX2 yX2_low yX2_low, Cond.initialized RX2, Cond.code yX2_low cX2_low 2 (some .int), Cond.fieldLink RX2 9 "PlateauBench$Grid" "low" "[I", Cond.methodLink RX0 34 yX2_high]
def wsX5_costOf_r2 : List Cond := [Cond.instanceMethod yX2_high, Cond.selects RX2 yX2_high yX2_high, Cond.code yX2_high cX2_high 2 (some .int), Cond.fieldLink RX2 15 "PlateauBench$Grid" "high" "[I", Cond.methodLink RX0 37 yX2_price, Cond.instanceMethod yX2_price, Cond.selects RX2 yX2_price yX2_price, Cond.code yX2_price cX2_price 2 (some .int), Cond.fieldLink RX2 24 "PlateauBench$Grid" "prices" "[I"]
def wsX5_costOf : List Cond := .code yX5_costOf cX5_costOf 3 (some .int) :: ((wsX5_costOf_r1 ++ wsX5_costOf_r2) ++ wsX50 ++ wsX00 ++ wsX20 ++ (vx_atS RX5 48 "java/lang/IllegalArgumentException" ["java/lang/RuntimeException", "java/lang/Exception"]).filter goodWord)
def wsX5_checkBubble : List Cond := .code yX5_checkBubble cX5_checkBubble 1 none :: ([.classLink RX5 215 "java/lang/IndexOutOfBoundsException", .initialized "java/lang/IndexOutOfBoundsException"] ++ (vx_atS RX5 219 "java/lang/IndexOutOfBoundsException" ["java/lang/RuntimeException", "java/lang/Exception"]).filter goodWord)
def wsX5_pull_r1 : List Cond := [Cond.fieldLink RX5 40 "PlateauBench" "foam" "LPlateauBench$Foam;", Cond.fieldLink RX5 10 "PlateauBench" "grid" "LPlateauBench$Grid;", Cond.methodLink RX5 77 yX5_checkNode, Cond.static yX5_checkNode, Cond.initialized RX5, Cond.code yX5_checkNode cX5_checkNode 1 none, Cond.classLink RX5 215 "java/lang/IndexOutOfBoundsException", Cond.initialized "java/lang/IndexOutOfBoundsException", Cond.methodLink RX5 151 yX5_checkBubble, Cond.static yX5_checkBubble, Cond.code yX5_checkBubble cX5_checkBubble 1 none, Cond.methodLink RX5 154 yX1_change, Cond.instanceMethod yX1_change, Cond.selects RX1 yX1_change yX1_change, Cond.initialized RX1, Cond.code yX1_change cX1_change 6 (some .int), Cond.fieldLink RX1 9 "PlateauBench$Foam" "owners" "[I", Cond.methodLink RX1 51 yX1_energyNow, Cond.instanceMethod yX1_energyNow, Cond.selects RX1 yX1_energyNow yX1_energyNow, Cond.code yX1_energyNow cX1_energyNow 2 (some .int), Cond.methodLink RX1 35 yX1_energyOf, Cond.static yX1_energyOf, Cond.code yX1_energyOf cX1_energyOf 4 (some .int)]
def wsX5_pull_r2 : List Cond := [Cond.methodLink RX1 39 yX2_low, Cond.instanceMethod yX2_low, Cond.selects RX2 yX2_low yX2_low, Cond.initialized RX2, Cond.code yX2_low cX2_low 2 (some .int), Cond.fieldLink RX2 9 "PlateauBench$Grid" "low" "[I", Cond.methodLink RX1 45 yX2_high, Cond.instanceMethod yX2_high, Cond.selects RX2 yX2_high yX2_high, Cond.code yX2_high cX2_high 2 (some .int), Cond.fieldLink RX2 15 "PlateauBench$Grid" "high" "[I", Cond.methodLink RX1 48 yX2_price, Cond.instanceMethod yX2_price, Cond.selects RX2 yX2_price yX2_price, Cond.code yX2_price cX2_price 2 (some .int), Cond.fieldLink RX2 24 "PlateauBench$Grid" "prices" "[I", Cond.methodLink RX1 55 yX1_addWork, Cond.instanceMethod yX1_addWork, Cond.selects RX1 yX1_addWork yX1_addWork, Cond.code yX1_addWork cX1_addWork 2 none, Cond.fieldLink RX1 28 "PlateauBench$Foam" "work" "I"]
def wsX5_pull : List Cond := .code yX5_pull cX5_pull 3 (some .int) :: ((wsX5_pull_r1 ++ wsX5_pull_r2) ++ wsX50 ++ wsX10 ++ wsX20 ++ (vx_atS RX5 219 "java/lang/IndexOutOfBoundsException" ["java/lang/RuntimeException", "java/lang/Exception"]).filter goodWord)
def wsX5_hold : List Cond := .code yX5_hold cX5_hold 3 (some .boolean) :: ([.fieldLink RX5 40 "PlateauBench" "foam" "LPlateauBench$Foam;", .methodLink RX5 151 yX5_checkBubble, .static yX5_checkBubble, .initialized RX5, .code yX5_checkBubble cX5_checkBubble 1 none, .classLink RX5 215 "java/lang/IndexOutOfBoundsException", .initialized "java/lang/IndexOutOfBoundsException", .methodLink RX5 156 yX1_changeHeld, .instanceMethod yX1_changeHeld, .selects RX1 yX1_changeHeld yX1_changeHeld, .initialized RX1, .code yX1_changeHeld cX1_changeHeld 4 (some .boolean), .fieldLink RX1 18 "PlateauBench$Foam" "held" "[Z"] ++ wsX50 ++ wsX10 ++ (vx_atS RX5 219 "java/lang/IndexOutOfBoundsException" ["java/lang/RuntimeException", "java/lang/Exception"]).filter goodWord)
def wsX5_breathe_r1 : List Cond := [Cond.classLink RX5 44 "java/lang/IllegalArgumentException", Cond.initialized "java/lang/IllegalArgumentException", Cond.fieldLink RX5 40 "PlateauBench" "foam" "LPlateauBench$Foam;", Cond.fieldLink RX5 10 "PlateauBench" "grid" "LPlateauBench$Grid;", Cond.methodLink RX5 162 yX1_letBreathe, Cond.instanceMethod yX1_letBreathe, Cond.selects RX1 yX1_letBreathe yX1_letBreathe, Cond.initialized RX1, Cond.code yX1_letBreathe cX1_letBreathe 8 (some .int), Cond.fieldLink RX1 9 "PlateauBench$Foam" "owners" "[I", Cond.fieldLink RX1 32 "PlateauBench$Foam" "lost" "I", Cond.methodLink RX1 51 yX1_energyNow, Cond.instanceMethod yX1_energyNow, Cond.selects RX1 yX1_energyNow yX1_energyNow, Cond.code yX1_energyNow cX1_energyNow 2 (some .int), Cond.methodLink RX1 35 yX1_energyOf, Cond.static yX1_energyOf, Cond.code yX1_energyOf cX1_energyOf 4 (some .int), Cond.methodLink RX1 39 yX2_low, Cond.instanceMethod yX2_low, Cond.selects RX2 yX2_low yX2_low, Cond.initialized RX2, Cond.code yX2_low cX2_low 2 (some .int), Cond.fieldLink RX2 9 "PlateauBench$Grid" "low" "[I"]
def wsX5_breathe_r2 : List Cond := [Cond.methodLink RX1 45 yX2_high, Cond.instanceMethod yX2_high, Cond.selects RX2 yX2_high yX2_high, Cond.code yX2_high cX2_high 2 (some .int), Cond.fieldLink RX2 15 "PlateauBench$Grid" "high" "[I", Cond.methodLink RX1 48 yX2_price, Cond.instanceMethod yX2_price, Cond.selects RX2 yX2_price yX2_price, Cond.code yX2_price cX2_price 2 (some .int), Cond.fieldLink RX2 24 "PlateauBench$Grid" "prices" "[I", Cond.methodLink RX1 59 yX1_breath, Cond.instanceMethod yX1_breath, Cond.selects RX1 yX1_breath yX1_breath, Cond.code yX1_breath cX1_breath 6 (some .int), Cond.fieldLink RX1 18 "PlateauBench$Foam" "held" "[Z", Cond.methodLink RX1 71 yX1_bestOwner, Cond.instanceMethod yX1_bestOwner, Cond.selects RX1 yX1_bestOwner yX1_bestOwner, Cond.code yX1_bestOwner cX1_bestOwner 12 (some .int), Cond.methodLink RX1 75 yX1_wallsWith, Cond.static yX1_wallsWith, Cond.code yX1_wallsWith cX1_wallsWith 7 (some .int), Cond.methodLink RX1 79 yX2_beside, Cond.instanceMethod yX2_beside]
def wsX5_breathe_r3 : List Cond := [Cond.selects RX2 yX2_beside yX2_beside, Cond.code yX2_beside cX2_beside 3 (some .int), Cond.fieldLink RX2 18 "PlateauBench$Grid" "beside" "[I", Cond.methodLink RX1 83 yX2_otherEnd, Cond.instanceMethod yX2_otherEnd, Cond.selects RX2 yX2_otherEnd yX2_otherEnd, Cond.code yX2_otherEnd cX2_otherEnd 3 (some .int)]
def wsX5_breathe : List Cond := .code yX5_breathe cX5_breathe 2 (some .int) :: ((wsX5_breathe_r1 ++ (wsX5_breathe_r2 ++ wsX5_breathe_r3)) ++ wsX50 ++ wsX10 ++ wsX20 ++ (vx_atS RX5 48 "java/lang/IllegalArgumentException" ["java/lang/RuntimeException", "java/lang/Exception"]).filter goodWord)
def wsX5_bubbleAt : List Cond := .code yX5_bubbleAt cX5_bubbleAt 2 (some .int) :: ([.fieldLink RX5 40 "PlateauBench" "foam" "LPlateauBench$Foam;", .methodLink RX5 77 yX5_checkNode, .static yX5_checkNode, .initialized RX5, .code yX5_checkNode cX5_checkNode 1 none, .classLink RX5 215 "java/lang/IndexOutOfBoundsException", .initialized "java/lang/IndexOutOfBoundsException", .methodLink RX5 166 yX1_ownerOf, .instanceMethod yX1_ownerOf, .selects RX1 yX1_ownerOf yX1_ownerOf, .initialized RX1, .code yX1_ownerOf cX1_ownerOf 2 (some .int), .fieldLink RX1 9 "PlateauBench$Foam" "owners" "[I"] ++ wsX50 ++ wsX10 ++ (vx_atS RX5 219 "java/lang/IndexOutOfBoundsException" ["java/lang/RuntimeException", "java/lang/Exception"]).filter goodWord)
def wsX5_bubble_r1 : List Cond := [Cond.classLink RX5 44 "java/lang/IllegalArgumentException", Cond.initialized "java/lang/IllegalArgumentException", Cond.fieldLink RX5 40 "PlateauBench" "foam" "LPlateauBench$Foam;", Cond.fieldLink RX5 10 "PlateauBench" "grid" "LPlateauBench$Grid;", Cond.methodLink RX5 151 yX5_checkBubble, Cond.static yX5_checkBubble, Cond.initialized RX5, Cond.code yX5_checkBubble cX5_checkBubble 1 none, Cond.classLink RX5 215 "java/lang/IndexOutOfBoundsException", Cond.initialized "java/lang/IndexOutOfBoundsException", Cond.methodLink RX5 169 yX1_size, Cond.instanceMethod yX1_size, Cond.selects RX1 yX1_size yX1_size, Cond.initialized RX1, Cond.code yX1_size cX1_size 4 (some .int), Cond.fieldLink RX1 9 "PlateauBench$Foam" "owners" "[I", Cond.methodLink RX5 172 yX1_pieces, Cond.instanceMethod yX1_pieces, Cond.selects RX1 yX1_pieces yX1_pieces, Cond.code yX1_pieces cX1_pieces 5 (some .int), Cond.fieldLink RX1 22 "PlateauBench$Foam" "seen" "[Z", Cond.methodLink RX1 86 yX1_seePiece, Cond.instanceMethod yX1_seePiece, Cond.selects RX1 yX1_seePiece yX1_seePiece]
def wsX5_bubble_r2 : List Cond := [Cond.code yX1_seePiece cX1_seePiece 9 none, Cond.fieldLink RX1 25 "PlateauBench$Foam" "queue" "[I", Cond.methodLink RX1 79 yX2_beside, Cond.instanceMethod yX2_beside, Cond.selects RX2 yX2_beside yX2_beside, Cond.initialized RX2, Cond.code yX2_beside cX2_beside 3 (some .int), Cond.fieldLink RX2 18 "PlateauBench$Grid" "beside" "[I", Cond.methodLink RX1 83 yX2_otherEnd, Cond.instanceMethod yX2_otherEnd, Cond.selects RX2 yX2_otherEnd yX2_otherEnd, Cond.code yX2_otherEnd cX2_otherEnd 3 (some .int), Cond.fieldLink RX2 9 "PlateauBench$Grid" "low" "[I", Cond.fieldLink RX2 15 "PlateauBench$Grid" "high" "[I", Cond.methodLink RX5 175 yX1_wallsAround, Cond.instanceMethod yX1_wallsAround, Cond.selects RX1 yX1_wallsAround yX1_wallsAround, Cond.code yX1_wallsAround cX1_wallsAround 5 (some .int), Cond.methodLink RX1 90 yX1_wallsBetween, Cond.instanceMethod yX1_wallsBetween, Cond.selects RX1 yX1_wallsBetween yX1_wallsBetween, Cond.code yX1_wallsBetween cX1_wallsBetween 6 (some .int), Cond.methodLink RX1 94 yX1_isBetween, Cond.instanceMethod yX1_isBetween]
def wsX5_bubble_r3 : List Cond := [Cond.selects RX1 yX1_isBetween yX1_isBetween, Cond.code yX1_isBetween cX1_isBetween 7 (some .boolean), Cond.methodLink RX1 39 yX2_low, Cond.instanceMethod yX2_low, Cond.selects RX2 yX2_low yX2_low, Cond.code yX2_low cX2_low 2 (some .int), Cond.methodLink RX1 45 yX2_high, Cond.instanceMethod yX2_high, Cond.selects RX2 yX2_high yX2_high, Cond.code yX2_high cX2_high 2 (some .int), Cond.methodLink RX1 48 yX2_price, Cond.instanceMethod yX2_price, Cond.selects RX2 yX2_price yX2_price, Cond.code yX2_price cX2_price 2 (some .int), Cond.fieldLink RX2 24 "PlateauBench$Grid" "prices" "[I", Cond.methodLink RX5 178 yX1_neighbours, Cond.instanceMethod yX1_neighbours, Cond.selects RX1 yX1_neighbours yX1_neighbours, Cond.code yX1_neighbours cX1_neighbours 7 (some .int), Cond.methodLink RX1 98 yJ6_bitCount_0f7a4, Cond.static yJ6_bitCount_0f7a4, Cond.initialized RJ6, Cond.code yJ6_bitCount_0f7a4 cJ6_bitCount_0f7a4 1 (some .int), Cond.constant RJ6 265 (1431655765)]
def wsX5_bubble_r4 : List Cond := [Cond.constant RJ6 266 (858993459), Cond.constant RJ6 267 (252645135), Cond.methodLink RX5 181 yX1_isHeld, Cond.instanceMethod yX1_isHeld, Cond.selects RX1 yX1_isHeld yX1_isHeld, Cond.code yX1_isHeld cX1_isHeld 2 (some .boolean), Cond.fieldLink RX1 18 "PlateauBench$Foam" "held" "[Z"]
def wsX5_bubble : List Cond := .code yX5_bubble cX5_bubble 3 (some .int) :: ((wsX5_bubble_r1 ++ (wsX5_bubble_r2 ++ (wsX5_bubble_r3 ++ wsX5_bubble_r4))) ++ wsX50 ++ wsX10 ++ wsX20 ++ (vx_atS RX5 48 "java/lang/IllegalArgumentException" ["java/lang/RuntimeException", "java/lang/Exception"]).filter goodWord ++ (vx_atS RX5 219 "java/lang/IndexOutOfBoundsException" ["java/lang/RuntimeException", "java/lang/Exception"]).filter goodWord)
def wsX5_wall_r1 : List Cond := [Cond.fieldLink RX5 40 "PlateauBench" "foam" "LPlateauBench$Foam;", Cond.fieldLink RX5 10 "PlateauBench" "grid" "LPlateauBench$Grid;", Cond.methodLink RX5 151 yX5_checkBubble, Cond.static yX5_checkBubble, Cond.initialized RX5, Cond.code yX5_checkBubble cX5_checkBubble 1 none, Cond.classLink RX5 215 "java/lang/IndexOutOfBoundsException", Cond.initialized "java/lang/IndexOutOfBoundsException", Cond.methodLink RX5 186 yX1_wallsBetween, Cond.instanceMethod yX1_wallsBetween, Cond.selects RX1 yX1_wallsBetween yX1_wallsBetween, Cond.initialized RX1, Cond.code yX1_wallsBetween cX1_wallsBetween 6 (some .int), Cond.methodLink RX1 94 yX1_isBetween, Cond.instanceMethod yX1_isBetween, Cond.selects RX1 yX1_isBetween yX1_isBetween, Cond.code yX1_isBetween cX1_isBetween 7 (some .boolean), Cond.fieldLink RX1 9 "PlateauBench$Foam" "owners" "[I", Cond.methodLink RX1 39 yX2_low, Cond.instanceMethod yX2_low, Cond.selects RX2 yX2_low yX2_low, Cond.initialized RX2, Cond.code yX2_low cX2_low 2 (some .int), Cond.fieldLink RX2 9 "PlateauBench$Grid" "low" "[I"]
def wsX5_wall_r2 : List Cond := [Cond.methodLink RX1 45 yX2_high, Cond.instanceMethod yX2_high, Cond.selects RX2 yX2_high yX2_high, Cond.code yX2_high cX2_high 2 (some .int), Cond.fieldLink RX2 15 "PlateauBench$Grid" "high" "[I", Cond.methodLink RX1 48 yX2_price, Cond.instanceMethod yX2_price, Cond.selects RX2 yX2_price yX2_price, Cond.code yX2_price cX2_price 2 (some .int), Cond.fieldLink RX2 24 "PlateauBench$Grid" "prices" "[I"]
def wsX5_wall : List Cond := .code yX5_wall cX5_wall 3 (some .int) :: ((wsX5_wall_r1 ++ wsX5_wall_r2) ++ wsX50 ++ wsX10 ++ wsX20 ++ (vx_atS RX5 219 "java/lang/IndexOutOfBoundsException" ["java/lang/RuntimeException", "java/lang/Exception"]).filter goodWord)
def wsX5_corners : List Cond := .code yX5_corners cX5_corners 2 (some .int) :: ([.classLink RX5 44 "java/lang/IllegalArgumentException", .initialized "java/lang/IllegalArgumentException", .fieldLink RX5 40 "PlateauBench" "foam" "LPlateauBench$Foam;", .methodLink RX5 191 yX1_cornersOf, .instanceMethod yX1_cornersOf, .selects RX1 yX1_cornersOf yX1_cornersOf, .initialized RX1, .code yX1_cornersOf cX1_cornersOf 5 (some .int), .methodLink RX1 103 yX1_kindsAt, .instanceMethod yX1_kindsAt, .selects RX1 yX1_kindsAt yX1_kindsAt, .code yX1_kindsAt cX1_kindsAt 4 (some .int), .fieldLink RX1 9 "PlateauBench$Foam" "owners" "[I", .methodLink RX1 98 yJ6_bitCount_0f7a4, .static yJ6_bitCount_0f7a4, .initialized RJ6, .code yJ6_bitCount_0f7a4 cJ6_bitCount_0f7a4 1 (some .int), .constant RJ6 265 (1431655765), .constant RJ6 266 (858993459), .constant RJ6 267 (252645135)] ++ wsX50 ++ wsX10 ++ (vx_atS RX5 48 "java/lang/IllegalArgumentException" ["java/lang/RuntimeException", "java/lang/Exception"]).filter goodWord)
def wsX5_rests_r1 : List Cond := [Cond.fieldLink RX5 40 "PlateauBench" "foam" "LPlateauBench$Foam;", Cond.fieldLink RX5 10 "PlateauBench" "grid" "LPlateauBench$Grid;", Cond.methodLink RX5 194 yX1_breathsToRest, Cond.instanceMethod yX1_breathsToRest, Cond.selects RX1 yX1_breathsToRest yX1_breathsToRest, Cond.initialized RX1, Cond.code yX1_breathsToRest cX1_breathsToRest 3 (some .int), Cond.fieldLink RX1 9 "PlateauBench$Foam" "owners" "[I", Cond.fieldLink RX1 15 "PlateauBench$Foam" "ahead" "[I", Cond.methodLink RX1 62 arraycopyName, Cond.native arraycopyName, Cond.static arraycopyName, Cond.initialized "java/lang/System", Cond.methodLink RX1 59 yX1_breath, Cond.instanceMethod yX1_breath, Cond.selects RX1 yX1_breath yX1_breath, Cond.code yX1_breath cX1_breath 6 (some .int), Cond.fieldLink RX1 18 "PlateauBench$Foam" "held" "[Z", Cond.methodLink RX1 71 yX1_bestOwner, Cond.instanceMethod yX1_bestOwner, Cond.selects RX1 yX1_bestOwner yX1_bestOwner, Cond.code yX1_bestOwner cX1_bestOwner 12 (some .int), Cond.methodLink RX1 75 yX1_wallsWith, Cond.static yX1_wallsWith]
def wsX5_rests_r2 : List Cond := [Cond.code yX1_wallsWith cX1_wallsWith 7 (some .int), Cond.methodLink RX1 79 yX2_beside, Cond.instanceMethod yX2_beside, Cond.selects RX2 yX2_beside yX2_beside, Cond.initialized RX2, Cond.code yX2_beside cX2_beside 3 (some .int), Cond.fieldLink RX2 18 "PlateauBench$Grid" "beside" "[I", Cond.methodLink RX1 83 yX2_otherEnd, Cond.instanceMethod yX2_otherEnd, Cond.selects RX2 yX2_otherEnd yX2_otherEnd, Cond.code yX2_otherEnd cX2_otherEnd 3 (some .int), Cond.fieldLink RX2 9 "PlateauBench$Grid" "low" "[I", Cond.fieldLink RX2 15 "PlateauBench$Grid" "high" "[I", Cond.methodLink RX1 48 yX2_price, Cond.instanceMethod yX2_price, Cond.selects RX2 yX2_price yX2_price, Cond.code yX2_price cX2_price 2 (some .int), Cond.fieldLink RX2 24 "PlateauBench$Grid" "prices" "[I"]
def wsX5_rests : List Cond := .code yX5_rests cX5_rests 1 (some .int) :: ((wsX5_rests_r1 ++ wsX5_rests_r2) ++ wsX50 ++ wsX10 ++ wsX20)
def wsX5_energy_r1 : List Cond := [Cond.classLink RX5 44 "java/lang/IllegalArgumentException", Cond.initialized "java/lang/IllegalArgumentException", Cond.fieldLink RX5 40 "PlateauBench" "foam" "LPlateauBench$Foam;", Cond.fieldLink RX5 10 "PlateauBench" "grid" "LPlateauBench$Grid;", Cond.methodLink RX5 53 yX1_energyNow, Cond.instanceMethod yX1_energyNow, Cond.selects RX1 yX1_energyNow yX1_energyNow, Cond.initialized RX1, Cond.code yX1_energyNow cX1_energyNow 2 (some .int), Cond.fieldLink RX1 9 "PlateauBench$Foam" "owners" "[I", Cond.methodLink RX1 35 yX1_energyOf, Cond.static yX1_energyOf, Cond.code yX1_energyOf cX1_energyOf 4 (some .int), Cond.methodLink RX1 39 yX2_low, Cond.instanceMethod yX2_low, Cond.selects RX2 yX2_low yX2_low, Cond.initialized RX2, Cond.code yX2_low cX2_low 2 (some .int), Cond.fieldLink RX2 9 "PlateauBench$Grid" "low" "[I", Cond.methodLink RX1 45 yX2_high, Cond.instanceMethod yX2_high, Cond.selects RX2 yX2_high yX2_high, Cond.code yX2_high cX2_high 2 (some .int), Cond.fieldLink RX2 15 "PlateauBench$Grid" "high" "[I"]
def wsX5_energy_r2 : List Cond := [Cond.methodLink RX1 48 yX2_price, Cond.instanceMethod yX2_price, Cond.selects RX2 yX2_price yX2_price, Cond.code yX2_price cX2_price 2 (some .int), Cond.fieldLink RX2 24 "PlateauBench$Grid" "prices" "[I", Cond.methodLink RX5 197 yX1_energyAtRest, Cond.instanceMethod yX1_energyAtRest, Cond.selects RX1 yX1_energyAtRest yX1_energyAtRest, Cond.code yX1_energyAtRest cX1_energyAtRest 2 (some .int), Cond.fieldLink RX1 15 "PlateauBench$Foam" "ahead" "[I", Cond.methodLink RX1 68 yX1_breathsToRest, Cond.instanceMethod yX1_breathsToRest, Cond.selects RX1 yX1_breathsToRest yX1_breathsToRest, Cond.code yX1_breathsToRest cX1_breathsToRest 3 (some .int), Cond.methodLink RX1 62 arraycopyName, Cond.native arraycopyName, Cond.static arraycopyName, Cond.initialized "java/lang/System", Cond.methodLink RX1 59 yX1_breath, Cond.instanceMethod yX1_breath, Cond.selects RX1 yX1_breath yX1_breath, Cond.code yX1_breath cX1_breath 6 (some .int), Cond.fieldLink RX1 18 "PlateauBench$Foam" "held" "[Z", Cond.methodLink RX1 71 yX1_bestOwner]
def wsX5_energy_r3 : List Cond := [Cond.instanceMethod yX1_bestOwner, Cond.selects RX1 yX1_bestOwner yX1_bestOwner, Cond.code yX1_bestOwner cX1_bestOwner 12 (some .int), Cond.methodLink RX1 75 yX1_wallsWith, Cond.static yX1_wallsWith, Cond.code yX1_wallsWith cX1_wallsWith 7 (some .int), Cond.methodLink RX1 79 yX2_beside, Cond.instanceMethod yX2_beside, Cond.selects RX2 yX2_beside yX2_beside, Cond.code yX2_beside cX2_beside 3 (some .int), Cond.fieldLink RX2 18 "PlateauBench$Grid" "beside" "[I", Cond.methodLink RX1 83 yX2_otherEnd, Cond.instanceMethod yX2_otherEnd, Cond.selects RX2 yX2_otherEnd yX2_otherEnd, Cond.code yX2_otherEnd cX2_otherEnd 3 (some .int), Cond.methodLink RX5 200 yX1_workDone, Cond.instanceMethod yX1_workDone, Cond.selects RX1 yX1_workDone yX1_workDone, Cond.code yX1_workDone cX1_workDone 1 (some .int), Cond.fieldLink RX1 28 "PlateauBench$Foam" "work" "I", Cond.methodLink RX5 204 yX1_energyLost, Cond.instanceMethod yX1_energyLost, Cond.selects RX1 yX1_energyLost yX1_energyLost, Cond.code yX1_energyLost cX1_energyLost 1 (some .int)]
def wsX5_energy_r4 : List Cond := [Cond.fieldLink RX1 32 "PlateauBench$Foam" "lost" "I"]
def wsX5_energy : List Cond := .code yX5_energy cX5_energy 2 (some .int) :: ((wsX5_energy_r1 ++ (wsX5_energy_r2 ++ (wsX5_energy_r3 ++ wsX5_energy_r4))) ++ wsX50 ++ wsX10 ++ wsX20 ++ (vx_atS RX5 48 "java/lang/IllegalArgumentException" ["java/lang/RuntimeException", "java/lang/Exception"]).filter goodWord)
def wsX6_init : List Cond := .code yX6_init cX6_init 1 none :: ([.methodLink RX6 1 objectInit, .instanceMethod objectInit, .code objectInit ⟨#[0xb1]⟩ 1 none, .arrayClass .int, .fieldLink RX6 7 "PlateauBenchModel" "prices" "[I", .fieldLink RX6 13 "PlateauBenchModel" "laid" "[I", .fieldLink RX6 16 "PlateauBenchModel" "townNodes" "[I", .fieldLink RX6 19 "PlateauBenchModel" "pins" "[I", .fieldLink RX6 22 "PlateauBenchModel" "bubbles" "[I", .arrayClass .boolean, .fieldLink RX6 25 "PlateauBenchModel" "isHeld" "[Z", .fieldLink RX6 29 "PlateauBenchModel" "far" "[I", .fieldLink RX6 32 "PlateauBenchModel" "ends" "[I", .fieldLink RX6 35 "PlateauBenchModel" "nets" "[I", .fieldLink RX6 38 "PlateauBenchModel" "flow" "[I", .fieldLink RX6 41 "PlateauBenchModel" "came" "[I", .fieldLink RX6 44 "PlateauBenchModel" "isReached" "[Z", .fieldLink RX6 47 "PlateauBenchModel" "kept" "[I", .fieldLink RX6 50 "PlateauBenchModel" "pieces" "[I", .fieldLink RX6 53 "PlateauBenchModel" "free" "I"] ++ wsX60)
def wsX6_thrown : List Cond := .code yX6_thrown cX6_thrown 1 (some .int) :: ([.fieldLink RX6 57 "PlateauBenchModel" "thrown" "I"] ++ wsX60)
def wsX6_in : List Cond := .code yX6_in cX6_in 3 (some .boolean) :: ([])
def wsX6_refused : List Cond := .code yX6_refused cX6_refused 2 (some .boolean) :: ([.fieldLink RX6 57 "PlateauBenchModel" "thrown" "I"] ++ wsX60)
def wsX6_isNode : List Cond := .code yX6_isNode cX6_isNode 1 (some .boolean) :: ([.methodLink RX6 60 yX6_in, .static yX6_in, .initialized RX6, .code yX6_in cX6_in 3 (some .boolean)])
def wsX6_isEdge : List Cond := .code yX6_isEdge cX6_isEdge 1 (some .boolean) :: ([.methodLink RX6 60 yX6_in, .static yX6_in, .initialized RX6, .code yX6_in cX6_in 3 (some .boolean)])
def wsX6_isBubble : List Cond := .code yX6_isBubble cX6_isBubble 1 (some .boolean) :: ([.methodLink RX6 60 yX6_in, .static yX6_in, .initialized RX6, .code yX6_in cX6_in 3 (some .boolean)])
def wsX6_first : List Cond := .code yX6_first cX6_first 1 (some .int) :: ([])
def wsX6_second : List Cond := .code yX6_second cX6_second 1 (some .int) :: ([.methodLink RX6 64 yX6_first, .static yX6_first, .initialized RX6, .code yX6_first cX6_first 1 (some .int)])
def wsX6_costOfEdge : List Cond := .code yX6_costOfEdge cX6_costOfEdge 2 (some .int) :: ([.fieldLink RX6 7 "PlateauBenchModel" "prices" "[I", .fieldLink RX6 13 "PlateauBenchModel" "laid" "[I"] ++ wsX60)
def wsX6_energyNow : List Cond := .code yX6_energyNow cX6_energyNow 3 (some .int) :: ([.fieldLink RX6 22 "PlateauBenchModel" "bubbles" "[I", .methodLink RX6 64 yX6_first, .static yX6_first, .initialized RX6, .code yX6_first cX6_first 1 (some .int), .methodLink RX6 86 yX6_second, .static yX6_second, .code yX6_second cX6_second 1 (some .int), .methodLink RX6 82 yX6_costOfEdge, .instanceMethod yX6_costOfEdge, .selects RX6 yX6_costOfEdge yX6_costOfEdge, .code yX6_costOfEdge cX6_costOfEdge 2 (some .int), .fieldLink RX6 7 "PlateauBenchModel" "prices" "[I", .fieldLink RX6 13 "PlateauBenchModel" "laid" "[I"] ++ wsX60)
def wsX6_cost_r1 : List Cond := [Cond.fieldLink RX6 7 "PlateauBenchModel" "prices" "[I", Cond.fieldLink RX6 76 "PlateauBenchModel" "work" "I", Cond.methodLink RX6 60 yX6_in, Cond.static yX6_in, Cond.initialized RX6, Cond.code yX6_in cX6_in 3 (some .boolean), Cond.methodLink RX6 68 yX6_refused, Cond.instanceMethod yX6_refused, Cond.selects RX6 yX6_refused yX6_refused, Cond.code yX6_refused cX6_refused 2 (some .boolean), Cond.fieldLink RX6 57 "PlateauBenchModel" "thrown" "I", Cond.methodLink RX6 72 yX6_energyNow, Cond.instanceMethod yX6_energyNow, Cond.selects RX6 yX6_energyNow yX6_energyNow, Cond.code yX6_energyNow cX6_energyNow 3 (some .int), Cond.fieldLink RX6 22 "PlateauBenchModel" "bubbles" "[I", Cond.methodLink RX6 64 yX6_first, Cond.static yX6_first, Cond.code yX6_first cX6_first 1 (some .int), Cond.methodLink RX6 86 yX6_second, Cond.static yX6_second, Cond.code yX6_second cX6_second 1 (some .int), Cond.methodLink RX6 82 yX6_costOfEdge, Cond.instanceMethod yX6_costOfEdge]
def wsX6_cost_r2 : List Cond := [Cond.selects RX6 yX6_costOfEdge yX6_costOfEdge, Cond.code yX6_costOfEdge cX6_costOfEdge 2 (some .int), Cond.fieldLink RX6 13 "PlateauBenchModel" "laid" "[I"]
def wsX6_cost : List Cond := .code yX6_cost cX6_cost 5 (some .int) :: ((wsX6_cost_r1 ++ wsX6_cost_r2) ++ wsX60)
def wsX6_lay_r1 : List Cond := [Cond.fieldLink RX6 13 "PlateauBenchModel" "laid" "[I", Cond.fieldLink RX6 76 "PlateauBenchModel" "work" "I", Cond.methodLink RX6 79 yX6_isEdge, Cond.static yX6_isEdge, Cond.initialized RX6, Cond.code yX6_isEdge cX6_isEdge 1 (some .boolean), Cond.methodLink RX6 60 yX6_in, Cond.static yX6_in, Cond.code yX6_in cX6_in 3 (some .boolean), Cond.methodLink RX6 68 yX6_refused, Cond.instanceMethod yX6_refused, Cond.selects RX6 yX6_refused yX6_refused, Cond.code yX6_refused cX6_refused 2 (some .boolean), Cond.fieldLink RX6 57 "PlateauBenchModel" "thrown" "I", Cond.methodLink RX6 72 yX6_energyNow, Cond.instanceMethod yX6_energyNow, Cond.selects RX6 yX6_energyNow yX6_energyNow, Cond.code yX6_energyNow cX6_energyNow 3 (some .int), Cond.fieldLink RX6 22 "PlateauBenchModel" "bubbles" "[I", Cond.methodLink RX6 64 yX6_first, Cond.static yX6_first, Cond.code yX6_first cX6_first 1 (some .int), Cond.methodLink RX6 86 yX6_second, Cond.static yX6_second]
def wsX6_lay_r2 : List Cond := [Cond.code yX6_second cX6_second 1 (some .int), Cond.methodLink RX6 82 yX6_costOfEdge, Cond.instanceMethod yX6_costOfEdge, Cond.selects RX6 yX6_costOfEdge yX6_costOfEdge, Cond.code yX6_costOfEdge cX6_costOfEdge 2 (some .int), Cond.fieldLink RX6 7 "PlateauBenchModel" "prices" "[I"]
def wsX6_lay : List Cond := .code yX6_lay cX6_lay 5 (some .int) :: ((wsX6_lay_r1 ++ wsX6_lay_r2) ++ wsX60)
def wsX6_edge : List Cond := .code yX6_edge cX6_edge 2 (some .int) :: ([.methodLink RX6 79 yX6_isEdge, .static yX6_isEdge, .initialized RX6, .code yX6_isEdge cX6_isEdge 1 (some .boolean), .methodLink RX6 60 yX6_in, .static yX6_in, .code yX6_in cX6_in 3 (some .boolean), .methodLink RX6 68 yX6_refused, .instanceMethod yX6_refused, .selects RX6 yX6_refused yX6_refused, .code yX6_refused cX6_refused 2 (some .boolean), .fieldLink RX6 57 "PlateauBenchModel" "thrown" "I", .methodLink RX6 82 yX6_costOfEdge, .instanceMethod yX6_costOfEdge, .selects RX6 yX6_costOfEdge yX6_costOfEdge, .code yX6_costOfEdge cX6_costOfEdge 2 (some .int), .fieldLink RX6 7 "PlateauBenchModel" "prices" "[I", .fieldLink RX6 13 "PlateauBenchModel" "laid" "[I"] ++ wsX60)
def wsX6_findFar : List Cond := .code yX6_findFar cX6_findFar 6 none :: ([.fieldLink RX6 29 "PlateauBenchModel" "far" "[I", .constant RX6 85 (1000000000), .methodLink RX6 64 yX6_first, .static yX6_first, .initialized RX6, .code yX6_first cX6_first 1 (some .int), .methodLink RX6 86 yX6_second, .static yX6_second, .code yX6_second cX6_second 1 (some .int), .methodLink RX6 82 yX6_costOfEdge, .instanceMethod yX6_costOfEdge, .selects RX6 yX6_costOfEdge yX6_costOfEdge, .code yX6_costOfEdge cX6_costOfEdge 2 (some .int), .fieldLink RX6 7 "PlateauBenchModel" "prices" "[I", .fieldLink RX6 13 "PlateauBenchModel" "laid" "[I"] ++ wsX60)
def wsX6_apartFrom : List Cond := .code yX6_apartFrom cX6_apartFrom 3 (some .int) :: ([.fieldLink RX6 29 "PlateauBenchModel" "far" "[I", .methodLink RX6 89 yX6_findFar, .instanceMethod yX6_findFar, .selects RX6 yX6_findFar yX6_findFar, .initialized RX6, .code yX6_findFar cX6_findFar 6 none, .constant RX6 85 (1000000000), .methodLink RX6 64 yX6_first, .static yX6_first, .code yX6_first cX6_first 1 (some .int), .methodLink RX6 86 yX6_second, .static yX6_second, .code yX6_second cX6_second 1 (some .int), .methodLink RX6 82 yX6_costOfEdge, .instanceMethod yX6_costOfEdge, .selects RX6 yX6_costOfEdge yX6_costOfEdge, .code yX6_costOfEdge cX6_costOfEdge 2 (some .int), .fieldLink RX6 7 "PlateauBenchModel" "prices" "[I", .fieldLink RX6 13 "PlateauBenchModel" "laid" "[I"] ++ wsX60)
def wsX6_apart_r1 : List Cond := [Cond.methodLink RX6 93 yX6_isNode, Cond.static yX6_isNode, Cond.initialized RX6, Cond.code yX6_isNode cX6_isNode 1 (some .boolean), Cond.methodLink RX6 60 yX6_in, Cond.static yX6_in, Cond.code yX6_in cX6_in 3 (some .boolean), Cond.methodLink RX6 68 yX6_refused, Cond.instanceMethod yX6_refused, Cond.selects RX6 yX6_refused yX6_refused, Cond.code yX6_refused cX6_refused 2 (some .boolean), Cond.fieldLink RX6 57 "PlateauBenchModel" "thrown" "I", Cond.methodLink RX6 96 yX6_apartFrom, Cond.instanceMethod yX6_apartFrom, Cond.selects RX6 yX6_apartFrom yX6_apartFrom, Cond.code yX6_apartFrom cX6_apartFrom 3 (some .int), Cond.fieldLink RX6 29 "PlateauBenchModel" "far" "[I", Cond.methodLink RX6 89 yX6_findFar, Cond.instanceMethod yX6_findFar, Cond.selects RX6 yX6_findFar yX6_findFar, Cond.code yX6_findFar cX6_findFar 6 none, Cond.constant RX6 85 (1000000000), Cond.methodLink RX6 64 yX6_first, Cond.static yX6_first]
def wsX6_apart_r2 : List Cond := [Cond.code yX6_first cX6_first 1 (some .int), Cond.methodLink RX6 86 yX6_second, Cond.static yX6_second, Cond.code yX6_second cX6_second 1 (some .int), Cond.methodLink RX6 82 yX6_costOfEdge, Cond.instanceMethod yX6_costOfEdge, Cond.selects RX6 yX6_costOfEdge yX6_costOfEdge, Cond.code yX6_costOfEdge cX6_costOfEdge 2 (some .int), Cond.fieldLink RX6 7 "PlateauBenchModel" "prices" "[I", Cond.fieldLink RX6 13 "PlateauBenchModel" "laid" "[I"]
def wsX6_apart : List Cond := .code yX6_apart cX6_apart 3 (some .int) :: ((wsX6_apart_r1 ++ wsX6_apart_r2) ++ wsX60)
def wsX6_isTown : List Cond := .code yX6_isTown cX6_isTown 4 (some .boolean) :: ([.fieldLink RX6 100 "PlateauBenchModel" "towns" "I", .fieldLink RX6 16 "PlateauBenchModel" "townNodes" "[I"] ++ wsX60)
def wsX6_town : List Cond := .code yX6_town cX6_town 3 (some .int) :: ([.fieldLink RX6 100 "PlateauBenchModel" "towns" "I", .fieldLink RX6 16 "PlateauBenchModel" "townNodes" "[I", .methodLink RX6 93 yX6_isNode, .static yX6_isNode, .initialized RX6, .code yX6_isNode cX6_isNode 1 (some .boolean), .methodLink RX6 60 yX6_in, .static yX6_in, .code yX6_in cX6_in 3 (some .boolean), .methodLink RX6 103 yX6_isTown, .instanceMethod yX6_isTown, .selects RX6 yX6_isTown yX6_isTown, .code yX6_isTown cX6_isTown 4 (some .boolean), .methodLink RX6 68 yX6_refused, .instanceMethod yX6_refused, .selects RX6 yX6_refused yX6_refused, .code yX6_refused cX6_refused 2 (some .boolean), .fieldLink RX6 57 "PlateauBenchModel" "thrown" "I"] ++ wsX60)
def wsX6_away : List Cond := .code yX6_away cX6_away 4 (some .int) :: ([.fieldLink RX6 100 "PlateauBenchModel" "towns" "I", .fieldLink RX6 16 "PlateauBenchModel" "townNodes" "[I", .methodLink RX6 60 yX6_in, .static yX6_in, .initialized RX6, .code yX6_in cX6_in 3 (some .boolean), .methodLink RX6 68 yX6_refused, .instanceMethod yX6_refused, .selects RX6 yX6_refused yX6_refused, .code yX6_refused cX6_refused 2 (some .boolean), .fieldLink RX6 57 "PlateauBenchModel" "thrown" "I"] ++ wsX60)
def wsX6_townAt : List Cond := .code yX6_townAt cX6_townAt 2 (some .int) :: ([.fieldLink RX6 100 "PlateauBenchModel" "towns" "I", .fieldLink RX6 16 "PlateauBenchModel" "townNodes" "[I", .methodLink RX6 60 yX6_in, .static yX6_in, .initialized RX6, .code yX6_in cX6_in 3 (some .boolean), .methodLink RX6 68 yX6_refused, .instanceMethod yX6_refused, .selects RX6 yX6_refused yX6_refused, .code yX6_refused cX6_refused 2 (some .boolean), .fieldLink RX6 57 "PlateauBenchModel" "thrown" "I"] ++ wsX60)
def wsX6_spread : List Cond := .code yX6_spread cX6_spread 7 none :: ([.fieldLink RX6 53 "PlateauBenchModel" "free" "I", .fieldLink RX6 35 "PlateauBenchModel" "nets" "[I", .methodLink RX6 64 yX6_first, .static yX6_first, .initialized RX6, .code yX6_first cX6_first 1 (some .int), .methodLink RX6 86 yX6_second, .static yX6_second, .code yX6_second cX6_second 1 (some .int), .methodLink RX6 82 yX6_costOfEdge, .instanceMethod yX6_costOfEdge, .selects RX6 yX6_costOfEdge yX6_costOfEdge, .code yX6_costOfEdge cX6_costOfEdge 2 (some .int), .fieldLink RX6 7 "PlateauBenchModel" "prices" "[I", .fieldLink RX6 13 "PlateauBenchModel" "laid" "[I"] ++ wsX60)
def wsX6_leastOf : List Cond := .code yX6_leastOf cX6_leastOf 7 (some .int) :: ([.constant RX6 85 (1000000000), .fieldLink RX6 32 "PlateauBenchModel" "ends" "[I", .fieldLink RX6 35 "PlateauBenchModel" "nets" "[I", .methodLink RX6 106 yX6_spread, .instanceMethod yX6_spread, .selects RX6 yX6_spread yX6_spread, .initialized RX6, .code yX6_spread cX6_spread 7 none, .fieldLink RX6 53 "PlateauBenchModel" "free" "I", .methodLink RX6 64 yX6_first, .static yX6_first, .code yX6_first cX6_first 1 (some .int), .methodLink RX6 86 yX6_second, .static yX6_second, .code yX6_second cX6_second 1 (some .int), .methodLink RX6 82 yX6_costOfEdge, .instanceMethod yX6_costOfEdge, .selects RX6 yX6_costOfEdge yX6_costOfEdge, .code yX6_costOfEdge cX6_costOfEdge 2 (some .int), .fieldLink RX6 7 "PlateauBenchModel" "prices" "[I", .fieldLink RX6 13 "PlateauBenchModel" "laid" "[I"] ++ wsX60)
def wsX6_leastNow_r1 : List Cond := [Cond.fieldLink RX6 100 "PlateauBenchModel" "towns" "I", Cond.fieldLink RX6 32 "PlateauBenchModel" "ends" "[I", Cond.fieldLink RX6 16 "PlateauBenchModel" "townNodes" "[I", Cond.methodLink RX6 109 yX6_leastOf, Cond.instanceMethod yX6_leastOf, Cond.selects RX6 yX6_leastOf yX6_leastOf, Cond.initialized RX6, Cond.code yX6_leastOf cX6_leastOf 7 (some .int), Cond.constant RX6 85 (1000000000), Cond.fieldLink RX6 35 "PlateauBenchModel" "nets" "[I", Cond.methodLink RX6 106 yX6_spread, Cond.instanceMethod yX6_spread, Cond.selects RX6 yX6_spread yX6_spread, Cond.code yX6_spread cX6_spread 7 none, Cond.fieldLink RX6 53 "PlateauBenchModel" "free" "I", Cond.methodLink RX6 64 yX6_first, Cond.static yX6_first, Cond.code yX6_first cX6_first 1 (some .int), Cond.methodLink RX6 86 yX6_second, Cond.static yX6_second, Cond.code yX6_second cX6_second 1 (some .int), Cond.methodLink RX6 82 yX6_costOfEdge, Cond.instanceMethod yX6_costOfEdge, Cond.selects RX6 yX6_costOfEdge yX6_costOfEdge]
def wsX6_leastNow_r2 : List Cond := [Cond.code yX6_costOfEdge cX6_costOfEdge 2 (some .int), Cond.fieldLink RX6 7 "PlateauBenchModel" "prices" "[I", Cond.fieldLink RX6 13 "PlateauBenchModel" "laid" "[I"]
def wsX6_leastNow : List Cond := .code yX6_leastNow cX6_leastNow 2 (some .int) :: ((wsX6_leastNow_r1 ++ wsX6_leastNow_r2) ++ wsX60)
def wsX6_least_r1 : List Cond := [Cond.fieldLink RX6 57 "PlateauBenchModel" "thrown" "I", Cond.methodLink RX6 112 yX6_leastNow, Cond.instanceMethod yX6_leastNow, Cond.selects RX6 yX6_leastNow yX6_leastNow, Cond.initialized RX6, Cond.code yX6_leastNow cX6_leastNow 2 (some .int), Cond.fieldLink RX6 100 "PlateauBenchModel" "towns" "I", Cond.fieldLink RX6 32 "PlateauBenchModel" "ends" "[I", Cond.fieldLink RX6 16 "PlateauBenchModel" "townNodes" "[I", Cond.methodLink RX6 109 yX6_leastOf, Cond.instanceMethod yX6_leastOf, Cond.selects RX6 yX6_leastOf yX6_leastOf, Cond.code yX6_leastOf cX6_leastOf 7 (some .int), Cond.constant RX6 85 (1000000000), Cond.fieldLink RX6 35 "PlateauBenchModel" "nets" "[I", Cond.methodLink RX6 106 yX6_spread, Cond.instanceMethod yX6_spread, Cond.selects RX6 yX6_spread yX6_spread, Cond.code yX6_spread cX6_spread 7 none, Cond.fieldLink RX6 53 "PlateauBenchModel" "free" "I", Cond.methodLink RX6 64 yX6_first, Cond.static yX6_first, Cond.code yX6_first cX6_first 1 (some .int), Cond.methodLink RX6 86 yX6_second]
def wsX6_least_r2 : List Cond := [Cond.static yX6_second, Cond.code yX6_second cX6_second 1 (some .int), Cond.methodLink RX6 82 yX6_costOfEdge, Cond.instanceMethod yX6_costOfEdge, Cond.selects RX6 yX6_costOfEdge yX6_costOfEdge, Cond.code yX6_costOfEdge cX6_costOfEdge 2 (some .int), Cond.fieldLink RX6 7 "PlateauBenchModel" "prices" "[I", Cond.fieldLink RX6 13 "PlateauBenchModel" "laid" "[I"]
def wsX6_least : List Cond := .code yX6_least cX6_least 1 (some .int) :: ((wsX6_least_r1 ++ wsX6_least_r2) ++ wsX60)
def wsX6_leastAnew_r1 : List Cond := [Cond.fieldLink RX6 57 "PlateauBenchModel" "thrown" "I", Cond.fieldLink RX6 100 "PlateauBenchModel" "towns" "I", Cond.methodLink RX6 112 yX6_leastNow, Cond.instanceMethod yX6_leastNow, Cond.selects RX6 yX6_leastNow yX6_leastNow, Cond.initialized RX6, Cond.code yX6_leastNow cX6_leastNow 2 (some .int), Cond.fieldLink RX6 32 "PlateauBenchModel" "ends" "[I", Cond.fieldLink RX6 16 "PlateauBenchModel" "townNodes" "[I", Cond.methodLink RX6 109 yX6_leastOf, Cond.instanceMethod yX6_leastOf, Cond.selects RX6 yX6_leastOf yX6_leastOf, Cond.code yX6_leastOf cX6_leastOf 7 (some .int), Cond.constant RX6 85 (1000000000), Cond.fieldLink RX6 35 "PlateauBenchModel" "nets" "[I", Cond.methodLink RX6 106 yX6_spread, Cond.instanceMethod yX6_spread, Cond.selects RX6 yX6_spread yX6_spread, Cond.code yX6_spread cX6_spread 7 none, Cond.fieldLink RX6 53 "PlateauBenchModel" "free" "I", Cond.methodLink RX6 64 yX6_first, Cond.static yX6_first, Cond.code yX6_first cX6_first 1 (some .int), Cond.methodLink RX6 86 yX6_second]
def wsX6_leastAnew_r2 : List Cond := [Cond.static yX6_second, Cond.code yX6_second cX6_second 1 (some .int), Cond.methodLink RX6 82 yX6_costOfEdge, Cond.instanceMethod yX6_costOfEdge, Cond.selects RX6 yX6_costOfEdge yX6_costOfEdge, Cond.code yX6_costOfEdge cX6_costOfEdge 2 (some .int), Cond.fieldLink RX6 7 "PlateauBenchModel" "prices" "[I", Cond.fieldLink RX6 13 "PlateauBenchModel" "laid" "[I"]
def wsX6_leastAnew : List Cond := .code yX6_leastAnew cX6_leastAnew 1 (some .int) :: ((wsX6_leastAnew_r1 ++ wsX6_leastAnew_r2) ++ wsX60)
def wsX6_treeOfPairs_r1 : List Cond := [Cond.fieldLink RX6 100 "PlateauBenchModel" "towns" "I", Cond.constant RX6 85 (1000000000), Cond.fieldLink RX6 16 "PlateauBenchModel" "townNodes" "[I", Cond.methodLink RX6 96 yX6_apartFrom, Cond.instanceMethod yX6_apartFrom, Cond.selects RX6 yX6_apartFrom yX6_apartFrom, Cond.initialized RX6, Cond.code yX6_apartFrom cX6_apartFrom 3 (some .int), Cond.fieldLink RX6 29 "PlateauBenchModel" "far" "[I", Cond.methodLink RX6 89 yX6_findFar, Cond.instanceMethod yX6_findFar, Cond.selects RX6 yX6_findFar yX6_findFar, Cond.code yX6_findFar cX6_findFar 6 none, Cond.methodLink RX6 64 yX6_first, Cond.static yX6_first, Cond.code yX6_first cX6_first 1 (some .int), Cond.methodLink RX6 86 yX6_second, Cond.static yX6_second, Cond.code yX6_second cX6_second 1 (some .int), Cond.methodLink RX6 82 yX6_costOfEdge, Cond.instanceMethod yX6_costOfEdge, Cond.selects RX6 yX6_costOfEdge yX6_costOfEdge, Cond.code yX6_costOfEdge cX6_costOfEdge 2 (some .int), Cond.fieldLink RX6 7 "PlateauBenchModel" "prices" "[I"]
def wsX6_treeOfPairs_r2 : List Cond := [Cond.fieldLink RX6 13 "PlateauBenchModel" "laid" "[I"]
def wsX6_treeOfPairs : List Cond := .code yX6_treeOfPairs cX6_treeOfPairs 11 (some .int) :: ((wsX6_treeOfPairs_r1 ++ wsX6_treeOfPairs_r2) ++ wsX60)
def wsX6_boundNow_r1 : List Cond := [Cond.fieldLink RX6 100 "PlateauBenchModel" "towns" "I", Cond.fieldLink RX6 16 "PlateauBenchModel" "townNodes" "[I", Cond.methodLink RX6 115 yX6_treeOfPairs, Cond.instanceMethod yX6_treeOfPairs, Cond.selects RX6 yX6_treeOfPairs yX6_treeOfPairs, Cond.initialized RX6, Cond.code yX6_treeOfPairs cX6_treeOfPairs 11 (some .int), Cond.constant RX6 85 (1000000000), Cond.methodLink RX6 96 yX6_apartFrom, Cond.instanceMethod yX6_apartFrom, Cond.selects RX6 yX6_apartFrom yX6_apartFrom, Cond.code yX6_apartFrom cX6_apartFrom 3 (some .int), Cond.fieldLink RX6 29 "PlateauBenchModel" "far" "[I", Cond.methodLink RX6 89 yX6_findFar, Cond.instanceMethod yX6_findFar, Cond.selects RX6 yX6_findFar yX6_findFar, Cond.code yX6_findFar cX6_findFar 6 none, Cond.methodLink RX6 64 yX6_first, Cond.static yX6_first, Cond.code yX6_first cX6_first 1 (some .int), Cond.methodLink RX6 86 yX6_second, Cond.static yX6_second, Cond.code yX6_second cX6_second 1 (some .int), Cond.methodLink RX6 82 yX6_costOfEdge]
def wsX6_boundNow_r2 : List Cond := [Cond.instanceMethod yX6_costOfEdge, Cond.selects RX6 yX6_costOfEdge yX6_costOfEdge, Cond.code yX6_costOfEdge cX6_costOfEdge 2 (some .int), Cond.fieldLink RX6 7 "PlateauBenchModel" "prices" "[I", Cond.fieldLink RX6 13 "PlateauBenchModel" "laid" "[I"]
def wsX6_boundNow : List Cond := .code yX6_boundNow cX6_boundNow 8 (some .int) :: ((wsX6_boundNow_r1 ++ wsX6_boundNow_r2) ++ wsX60)
def wsX6_bound_r1 : List Cond := [Cond.fieldLink RX6 57 "PlateauBenchModel" "thrown" "I", Cond.methodLink RX6 118 yX6_boundNow, Cond.instanceMethod yX6_boundNow, Cond.selects RX6 yX6_boundNow yX6_boundNow, Cond.initialized RX6, Cond.code yX6_boundNow cX6_boundNow 8 (some .int), Cond.fieldLink RX6 100 "PlateauBenchModel" "towns" "I", Cond.fieldLink RX6 16 "PlateauBenchModel" "townNodes" "[I", Cond.methodLink RX6 115 yX6_treeOfPairs, Cond.instanceMethod yX6_treeOfPairs, Cond.selects RX6 yX6_treeOfPairs yX6_treeOfPairs, Cond.code yX6_treeOfPairs cX6_treeOfPairs 11 (some .int), Cond.constant RX6 85 (1000000000), Cond.methodLink RX6 96 yX6_apartFrom, Cond.instanceMethod yX6_apartFrom, Cond.selects RX6 yX6_apartFrom yX6_apartFrom, Cond.code yX6_apartFrom cX6_apartFrom 3 (some .int), Cond.fieldLink RX6 29 "PlateauBenchModel" "far" "[I", Cond.methodLink RX6 89 yX6_findFar, Cond.instanceMethod yX6_findFar, Cond.selects RX6 yX6_findFar yX6_findFar, Cond.code yX6_findFar cX6_findFar 6 none, Cond.methodLink RX6 64 yX6_first, Cond.static yX6_first]
def wsX6_bound_r2 : List Cond := [Cond.code yX6_first cX6_first 1 (some .int), Cond.methodLink RX6 86 yX6_second, Cond.static yX6_second, Cond.code yX6_second cX6_second 1 (some .int), Cond.methodLink RX6 82 yX6_costOfEdge, Cond.instanceMethod yX6_costOfEdge, Cond.selects RX6 yX6_costOfEdge yX6_costOfEdge, Cond.code yX6_costOfEdge cX6_costOfEdge 2 (some .int), Cond.fieldLink RX6 7 "PlateauBenchModel" "prices" "[I", Cond.fieldLink RX6 13 "PlateauBenchModel" "laid" "[I"]
def wsX6_bound : List Cond := .code yX6_bound cX6_bound 1 (some .int) :: ((wsX6_bound_r1 ++ wsX6_bound_r2) ++ wsX60)
def wsX6_gap_r1 : List Cond := [Cond.fieldLink RX6 57 "PlateauBenchModel" "thrown" "I", Cond.methodLink RX6 112 yX6_leastNow, Cond.instanceMethod yX6_leastNow, Cond.selects RX6 yX6_leastNow yX6_leastNow, Cond.initialized RX6, Cond.code yX6_leastNow cX6_leastNow 2 (some .int), Cond.fieldLink RX6 100 "PlateauBenchModel" "towns" "I", Cond.fieldLink RX6 32 "PlateauBenchModel" "ends" "[I", Cond.fieldLink RX6 16 "PlateauBenchModel" "townNodes" "[I", Cond.methodLink RX6 109 yX6_leastOf, Cond.instanceMethod yX6_leastOf, Cond.selects RX6 yX6_leastOf yX6_leastOf, Cond.code yX6_leastOf cX6_leastOf 7 (some .int), Cond.constant RX6 85 (1000000000), Cond.fieldLink RX6 35 "PlateauBenchModel" "nets" "[I", Cond.methodLink RX6 106 yX6_spread, Cond.instanceMethod yX6_spread, Cond.selects RX6 yX6_spread yX6_spread, Cond.code yX6_spread cX6_spread 7 none, Cond.fieldLink RX6 53 "PlateauBenchModel" "free" "I", Cond.methodLink RX6 64 yX6_first, Cond.static yX6_first, Cond.code yX6_first cX6_first 1 (some .int), Cond.methodLink RX6 86 yX6_second]
def wsX6_gap_r2 : List Cond := [Cond.static yX6_second, Cond.code yX6_second cX6_second 1 (some .int), Cond.methodLink RX6 82 yX6_costOfEdge, Cond.instanceMethod yX6_costOfEdge, Cond.selects RX6 yX6_costOfEdge yX6_costOfEdge, Cond.code yX6_costOfEdge cX6_costOfEdge 2 (some .int), Cond.fieldLink RX6 7 "PlateauBenchModel" "prices" "[I", Cond.fieldLink RX6 13 "PlateauBenchModel" "laid" "[I", Cond.methodLink RX6 118 yX6_boundNow, Cond.instanceMethod yX6_boundNow, Cond.selects RX6 yX6_boundNow yX6_boundNow, Cond.code yX6_boundNow cX6_boundNow 8 (some .int), Cond.methodLink RX6 115 yX6_treeOfPairs, Cond.instanceMethod yX6_treeOfPairs, Cond.selects RX6 yX6_treeOfPairs yX6_treeOfPairs, Cond.code yX6_treeOfPairs cX6_treeOfPairs 11 (some .int), Cond.methodLink RX6 96 yX6_apartFrom, Cond.instanceMethod yX6_apartFrom, Cond.selects RX6 yX6_apartFrom yX6_apartFrom, Cond.code yX6_apartFrom cX6_apartFrom 3 (some .int), Cond.fieldLink RX6 29 "PlateauBenchModel" "far" "[I", Cond.methodLink RX6 89 yX6_findFar, Cond.instanceMethod yX6_findFar, Cond.selects RX6 yX6_findFar yX6_findFar]
def wsX6_gap_r3 : List Cond := [Cond.code yX6_findFar cX6_findFar 6 none]
def wsX6_gap : List Cond := .code yX6_gap cX6_gap 1 (some .int) :: ((wsX6_gap_r1 ++ (wsX6_gap_r2 ++ wsX6_gap_r3)) ++ wsX60)
def wsX6_isUsed_r1 : List Cond := [Cond.fieldLink RX6 100 "PlateauBenchModel" "towns" "I", Cond.fieldLink RX6 32 "PlateauBenchModel" "ends" "[I", Cond.fieldLink RX6 53 "PlateauBenchModel" "free" "I", Cond.methodLink RX6 79 yX6_isEdge, Cond.static yX6_isEdge, Cond.initialized RX6, Cond.code yX6_isEdge cX6_isEdge 1 (some .boolean), Cond.methodLink RX6 60 yX6_in, Cond.static yX6_in, Cond.code yX6_in cX6_in 3 (some .boolean), Cond.methodLink RX6 68 yX6_refused, Cond.instanceMethod yX6_refused, Cond.selects RX6 yX6_refused yX6_refused, Cond.code yX6_refused cX6_refused 2 (some .boolean), Cond.fieldLink RX6 57 "PlateauBenchModel" "thrown" "I", Cond.methodLink RX6 112 yX6_leastNow, Cond.instanceMethod yX6_leastNow, Cond.selects RX6 yX6_leastNow yX6_leastNow, Cond.code yX6_leastNow cX6_leastNow 2 (some .int), Cond.fieldLink RX6 16 "PlateauBenchModel" "townNodes" "[I", Cond.methodLink RX6 109 yX6_leastOf, Cond.instanceMethod yX6_leastOf, Cond.selects RX6 yX6_leastOf yX6_leastOf, Cond.code yX6_leastOf cX6_leastOf 7 (some .int)]
def wsX6_isUsed_r2 : List Cond := [Cond.constant RX6 85 (1000000000), Cond.fieldLink RX6 35 "PlateauBenchModel" "nets" "[I", Cond.methodLink RX6 106 yX6_spread, Cond.instanceMethod yX6_spread, Cond.selects RX6 yX6_spread yX6_spread, Cond.code yX6_spread cX6_spread 7 none, Cond.methodLink RX6 64 yX6_first, Cond.static yX6_first, Cond.code yX6_first cX6_first 1 (some .int), Cond.methodLink RX6 86 yX6_second, Cond.static yX6_second, Cond.code yX6_second cX6_second 1 (some .int), Cond.methodLink RX6 82 yX6_costOfEdge, Cond.instanceMethod yX6_costOfEdge, Cond.selects RX6 yX6_costOfEdge yX6_costOfEdge, Cond.code yX6_costOfEdge cX6_costOfEdge 2 (some .int), Cond.fieldLink RX6 7 "PlateauBenchModel" "prices" "[I", Cond.fieldLink RX6 13 "PlateauBenchModel" "laid" "[I"]
def wsX6_isUsed : List Cond := .code yX6_isUsed cX6_isUsed 4 (some .boolean) :: ((wsX6_isUsed_r1 ++ wsX6_isUsed_r2) ++ wsX60)
def wsX6_stepCost : List Cond := .code yX6_stepCost cX6_stepCost 3 (some .int) :: ([.fieldLink RX6 38 "PlateauBenchModel" "flow" "[I", .constant RX6 85 (1000000000), .methodLink RX6 82 yX6_costOfEdge, .instanceMethod yX6_costOfEdge, .selects RX6 yX6_costOfEdge yX6_costOfEdge, .initialized RX6, .code yX6_costOfEdge cX6_costOfEdge 2 (some .int), .fieldLink RX6 7 "PlateauBenchModel" "prices" "[I", .fieldLink RX6 13 "PlateauBenchModel" "laid" "[I"] ++ wsX60)
def wsX6_oneWay : List Cond := .code yX6_oneWay cX6_oneWay 9 (some .int) :: ([.fieldLink RX6 29 "PlateauBenchModel" "far" "[I", .constant RX6 85 (1000000000), .fieldLink RX6 41 "PlateauBenchModel" "came" "[I", .fieldLink RX6 38 "PlateauBenchModel" "flow" "[I", .methodLink RX6 64 yX6_first, .static yX6_first, .initialized RX6, .code yX6_first cX6_first 1 (some .int), .methodLink RX6 86 yX6_second, .static yX6_second, .code yX6_second cX6_second 1 (some .int), .methodLink RX6 121 yX6_stepCost, .instanceMethod yX6_stepCost, .selects RX6 yX6_stepCost yX6_stepCost, .code yX6_stepCost cX6_stepCost 3 (some .int), .methodLink RX6 82 yX6_costOfEdge, .instanceMethod yX6_costOfEdge, .selects RX6 yX6_costOfEdge yX6_costOfEdge, .code yX6_costOfEdge cX6_costOfEdge 2 (some .int), .fieldLink RX6 7 "PlateauBenchModel" "prices" "[I", .fieldLink RX6 13 "PlateauBenchModel" "laid" "[I"] ++ wsX60)
def wsX6_twoWays_r1 : List Cond := [Cond.fieldLink RX6 38 "PlateauBenchModel" "flow" "[I", Cond.methodLink RX6 93 yX6_isNode, Cond.static yX6_isNode, Cond.initialized RX6, Cond.code yX6_isNode cX6_isNode 1 (some .boolean), Cond.methodLink RX6 60 yX6_in, Cond.static yX6_in, Cond.code yX6_in cX6_in 3 (some .boolean), Cond.methodLink RX6 68 yX6_refused, Cond.instanceMethod yX6_refused, Cond.selects RX6 yX6_refused yX6_refused, Cond.code yX6_refused cX6_refused 2 (some .boolean), Cond.fieldLink RX6 57 "PlateauBenchModel" "thrown" "I", Cond.methodLink RX6 125 yX6_oneWay, Cond.instanceMethod yX6_oneWay, Cond.selects RX6 yX6_oneWay yX6_oneWay, Cond.code yX6_oneWay cX6_oneWay 9 (some .int), Cond.fieldLink RX6 29 "PlateauBenchModel" "far" "[I", Cond.constant RX6 85 (1000000000), Cond.fieldLink RX6 41 "PlateauBenchModel" "came" "[I", Cond.methodLink RX6 64 yX6_first, Cond.static yX6_first, Cond.code yX6_first cX6_first 1 (some .int), Cond.methodLink RX6 86 yX6_second]
def wsX6_twoWays_r2 : List Cond := [Cond.static yX6_second, Cond.code yX6_second cX6_second 1 (some .int), Cond.methodLink RX6 121 yX6_stepCost, Cond.instanceMethod yX6_stepCost, Cond.selects RX6 yX6_stepCost yX6_stepCost, Cond.code yX6_stepCost cX6_stepCost 3 (some .int), Cond.methodLink RX6 82 yX6_costOfEdge, Cond.instanceMethod yX6_costOfEdge, Cond.selects RX6 yX6_costOfEdge yX6_costOfEdge, Cond.code yX6_costOfEdge cX6_costOfEdge 2 (some .int), Cond.fieldLink RX6 7 "PlateauBenchModel" "prices" "[I", Cond.fieldLink RX6 13 "PlateauBenchModel" "laid" "[I"]
def wsX6_twoWays : List Cond := .code yX6_twoWays cX6_twoWays 4 (some .int) :: ((wsX6_twoWays_r1 ++ wsX6_twoWays_r2) ++ wsX60)
def wsX6_pin : List Cond := .code yX6_pin cX6_pin 4 (some .int) :: ([.fieldLink RX6 19 "PlateauBenchModel" "pins" "[I", .methodLink RX6 93 yX6_isNode, .static yX6_isNode, .initialized RX6, .code yX6_isNode cX6_isNode 1 (some .boolean), .methodLink RX6 60 yX6_in, .static yX6_in, .code yX6_in cX6_in 3 (some .boolean), .methodLink RX6 68 yX6_refused, .instanceMethod yX6_refused, .selects RX6 yX6_refused yX6_refused, .code yX6_refused cX6_refused 2 (some .boolean), .fieldLink RX6 57 "PlateauBenchModel" "thrown" "I"] ++ wsX60)
def wsX6_rest : List Cond := .code yX6_rest cX6_rest 3 (some .int) :: ([.fieldLink RX6 38 "PlateauBenchModel" "flow" "[I", .methodLink RX6 82 yX6_costOfEdge, .instanceMethod yX6_costOfEdge, .selects RX6 yX6_costOfEdge yX6_costOfEdge, .initialized RX6, .code yX6_costOfEdge cX6_costOfEdge 2 (some .int), .fieldLink RX6 7 "PlateauBenchModel" "prices" "[I", .fieldLink RX6 13 "PlateauBenchModel" "laid" "[I"] ++ wsX60)
def wsX6_reach : List Cond := .code yX6_reach cX6_reach 9 none :: ([.fieldLink RX6 44 "PlateauBenchModel" "isReached" "[Z", .fieldLink RX6 19 "PlateauBenchModel" "pins" "[I", .fieldLink RX6 41 "PlateauBenchModel" "came" "[I", .methodLink RX6 64 yX6_first, .static yX6_first, .initialized RX6, .code yX6_first cX6_first 1 (some .int), .methodLink RX6 86 yX6_second, .static yX6_second, .code yX6_second cX6_second 1 (some .int), .methodLink RX6 128 yX6_rest, .instanceMethod yX6_rest, .selects RX6 yX6_rest yX6_rest, .code yX6_rest cX6_rest 3 (some .int), .fieldLink RX6 38 "PlateauBenchModel" "flow" "[I", .methodLink RX6 82 yX6_costOfEdge, .instanceMethod yX6_costOfEdge, .selects RX6 yX6_costOfEdge yX6_costOfEdge, .code yX6_costOfEdge cX6_costOfEdge 2 (some .int), .fieldLink RX6 7 "PlateauBenchModel" "prices" "[I", .fieldLink RX6 13 "PlateauBenchModel" "laid" "[I"] ++ wsX60)
def wsX6_reachedOutside : List Cond := .code yX6_reachedOutside cX6_reachedOutside 3 (some .int) :: ([.fieldLink RX6 44 "PlateauBenchModel" "isReached" "[Z", .fieldLink RX6 19 "PlateauBenchModel" "pins" "[I"] ++ wsX60)
def wsX6_push : List Cond := .code yX6_push cX6_push 4 none :: ([.fieldLink RX6 41 "PlateauBenchModel" "came" "[I", .fieldLink RX6 38 "PlateauBenchModel" "flow" "[I", .methodLink RX6 64 yX6_first, .static yX6_first, .initialized RX6, .code yX6_first cX6_first 1 (some .int), .methodLink RX6 86 yX6_second, .static yX6_second, .code yX6_second cX6_second 1 (some .int)] ++ wsX60)
def wsX6_greatestFlow_r1 : List Cond := [Cond.fieldLink RX6 38 "PlateauBenchModel" "flow" "[I", Cond.methodLink RX6 131 yX6_reach, Cond.instanceMethod yX6_reach, Cond.selects RX6 yX6_reach yX6_reach, Cond.initialized RX6, Cond.code yX6_reach cX6_reach 9 none, Cond.fieldLink RX6 44 "PlateauBenchModel" "isReached" "[Z", Cond.fieldLink RX6 19 "PlateauBenchModel" "pins" "[I", Cond.fieldLink RX6 41 "PlateauBenchModel" "came" "[I", Cond.methodLink RX6 64 yX6_first, Cond.static yX6_first, Cond.code yX6_first cX6_first 1 (some .int), Cond.methodLink RX6 86 yX6_second, Cond.static yX6_second, Cond.code yX6_second cX6_second 1 (some .int), Cond.methodLink RX6 128 yX6_rest, Cond.instanceMethod yX6_rest, Cond.selects RX6 yX6_rest yX6_rest, Cond.code yX6_rest cX6_rest 3 (some .int), Cond.methodLink RX6 82 yX6_costOfEdge, Cond.instanceMethod yX6_costOfEdge, Cond.selects RX6 yX6_costOfEdge yX6_costOfEdge, Cond.code yX6_costOfEdge cX6_costOfEdge 2 (some .int), Cond.fieldLink RX6 7 "PlateauBenchModel" "prices" "[I"]
def wsX6_greatestFlow_r2 : List Cond := [Cond.fieldLink RX6 13 "PlateauBenchModel" "laid" "[I", Cond.methodLink RX6 135 yX6_reachedOutside, Cond.instanceMethod yX6_reachedOutside, Cond.selects RX6 yX6_reachedOutside yX6_reachedOutside, Cond.code yX6_reachedOutside cX6_reachedOutside 3 (some .int), Cond.methodLink RX6 138 yX6_push, Cond.instanceMethod yX6_push, Cond.selects RX6 yX6_push yX6_push, Cond.code yX6_push cX6_push 4 none]
def wsX6_greatestFlow : List Cond := .code yX6_greatestFlow cX6_greatestFlow 3 (some .int) :: ((wsX6_greatestFlow_r1 ++ wsX6_greatestFlow_r2) ++ wsX60)
def wsX6_film_r1 : List Cond := [Cond.fieldLink RX6 57 "PlateauBenchModel" "thrown" "I", Cond.methodLink RX6 141 yX6_greatestFlow, Cond.instanceMethod yX6_greatestFlow, Cond.selects RX6 yX6_greatestFlow yX6_greatestFlow, Cond.initialized RX6, Cond.code yX6_greatestFlow cX6_greatestFlow 3 (some .int), Cond.fieldLink RX6 38 "PlateauBenchModel" "flow" "[I", Cond.methodLink RX6 131 yX6_reach, Cond.instanceMethod yX6_reach, Cond.selects RX6 yX6_reach yX6_reach, Cond.code yX6_reach cX6_reach 9 none, Cond.fieldLink RX6 44 "PlateauBenchModel" "isReached" "[Z", Cond.fieldLink RX6 19 "PlateauBenchModel" "pins" "[I", Cond.fieldLink RX6 41 "PlateauBenchModel" "came" "[I", Cond.methodLink RX6 64 yX6_first, Cond.static yX6_first, Cond.code yX6_first cX6_first 1 (some .int), Cond.methodLink RX6 86 yX6_second, Cond.static yX6_second, Cond.code yX6_second cX6_second 1 (some .int), Cond.methodLink RX6 128 yX6_rest, Cond.instanceMethod yX6_rest, Cond.selects RX6 yX6_rest yX6_rest, Cond.code yX6_rest cX6_rest 3 (some .int)]
def wsX6_film_r2 : List Cond := [Cond.methodLink RX6 82 yX6_costOfEdge, Cond.instanceMethod yX6_costOfEdge, Cond.selects RX6 yX6_costOfEdge yX6_costOfEdge, Cond.code yX6_costOfEdge cX6_costOfEdge 2 (some .int), Cond.fieldLink RX6 7 "PlateauBenchModel" "prices" "[I", Cond.fieldLink RX6 13 "PlateauBenchModel" "laid" "[I", Cond.methodLink RX6 135 yX6_reachedOutside, Cond.instanceMethod yX6_reachedOutside, Cond.selects RX6 yX6_reachedOutside yX6_reachedOutside, Cond.code yX6_reachedOutside cX6_reachedOutside 3 (some .int), Cond.methodLink RX6 138 yX6_push, Cond.instanceMethod yX6_push, Cond.selects RX6 yX6_push yX6_push, Cond.code yX6_push cX6_push 4 none]
def wsX6_film : List Cond := .code yX6_film cX6_film 1 (some .int) :: ((wsX6_film_r1 ++ wsX6_film_r2) ++ wsX60)
def wsX6_proof_r1 : List Cond := [Cond.fieldLink RX6 57 "PlateauBenchModel" "thrown" "I", Cond.methodLink RX6 141 yX6_greatestFlow, Cond.instanceMethod yX6_greatestFlow, Cond.selects RX6 yX6_greatestFlow yX6_greatestFlow, Cond.initialized RX6, Cond.code yX6_greatestFlow cX6_greatestFlow 3 (some .int), Cond.fieldLink RX6 38 "PlateauBenchModel" "flow" "[I", Cond.methodLink RX6 131 yX6_reach, Cond.instanceMethod yX6_reach, Cond.selects RX6 yX6_reach yX6_reach, Cond.code yX6_reach cX6_reach 9 none, Cond.fieldLink RX6 44 "PlateauBenchModel" "isReached" "[Z", Cond.fieldLink RX6 19 "PlateauBenchModel" "pins" "[I", Cond.fieldLink RX6 41 "PlateauBenchModel" "came" "[I", Cond.methodLink RX6 64 yX6_first, Cond.static yX6_first, Cond.code yX6_first cX6_first 1 (some .int), Cond.methodLink RX6 86 yX6_second, Cond.static yX6_second, Cond.code yX6_second cX6_second 1 (some .int), Cond.methodLink RX6 128 yX6_rest, Cond.instanceMethod yX6_rest, Cond.selects RX6 yX6_rest yX6_rest, Cond.code yX6_rest cX6_rest 3 (some .int)]
def wsX6_proof_r2 : List Cond := [Cond.methodLink RX6 82 yX6_costOfEdge, Cond.instanceMethod yX6_costOfEdge, Cond.selects RX6 yX6_costOfEdge yX6_costOfEdge, Cond.code yX6_costOfEdge cX6_costOfEdge 2 (some .int), Cond.fieldLink RX6 7 "PlateauBenchModel" "prices" "[I", Cond.fieldLink RX6 13 "PlateauBenchModel" "laid" "[I", Cond.methodLink RX6 135 yX6_reachedOutside, Cond.instanceMethod yX6_reachedOutside, Cond.selects RX6 yX6_reachedOutside yX6_reachedOutside, Cond.code yX6_reachedOutside cX6_reachedOutside 3 (some .int), Cond.methodLink RX6 138 yX6_push, Cond.instanceMethod yX6_push, Cond.selects RX6 yX6_push yX6_push, Cond.code yX6_push cX6_push 4 none]
def wsX6_proof : List Cond := .code yX6_proof cX6_proof 1 (some .int) :: ((wsX6_proof_r1 ++ wsX6_proof_r2) ++ wsX60)
def wsX6_side_r1 : List Cond := [Cond.fieldLink RX6 57 "PlateauBenchModel" "thrown" "I", Cond.fieldLink RX6 44 "PlateauBenchModel" "isReached" "[Z", Cond.methodLink RX6 141 yX6_greatestFlow, Cond.instanceMethod yX6_greatestFlow, Cond.selects RX6 yX6_greatestFlow yX6_greatestFlow, Cond.initialized RX6, Cond.code yX6_greatestFlow cX6_greatestFlow 3 (some .int), Cond.fieldLink RX6 38 "PlateauBenchModel" "flow" "[I", Cond.methodLink RX6 131 yX6_reach, Cond.instanceMethod yX6_reach, Cond.selects RX6 yX6_reach yX6_reach, Cond.code yX6_reach cX6_reach 9 none, Cond.fieldLink RX6 19 "PlateauBenchModel" "pins" "[I", Cond.fieldLink RX6 41 "PlateauBenchModel" "came" "[I", Cond.methodLink RX6 64 yX6_first, Cond.static yX6_first, Cond.code yX6_first cX6_first 1 (some .int), Cond.methodLink RX6 86 yX6_second, Cond.static yX6_second, Cond.code yX6_second cX6_second 1 (some .int), Cond.methodLink RX6 128 yX6_rest, Cond.instanceMethod yX6_rest, Cond.selects RX6 yX6_rest yX6_rest, Cond.code yX6_rest cX6_rest 3 (some .int)]
def wsX6_side_r2 : List Cond := [Cond.methodLink RX6 82 yX6_costOfEdge, Cond.instanceMethod yX6_costOfEdge, Cond.selects RX6 yX6_costOfEdge yX6_costOfEdge, Cond.code yX6_costOfEdge cX6_costOfEdge 2 (some .int), Cond.fieldLink RX6 7 "PlateauBenchModel" "prices" "[I", Cond.fieldLink RX6 13 "PlateauBenchModel" "laid" "[I", Cond.methodLink RX6 135 yX6_reachedOutside, Cond.instanceMethod yX6_reachedOutside, Cond.selects RX6 yX6_reachedOutside yX6_reachedOutside, Cond.code yX6_reachedOutside cX6_reachedOutside 3 (some .int), Cond.methodLink RX6 138 yX6_push, Cond.instanceMethod yX6_push, Cond.selects RX6 yX6_push yX6_push, Cond.code yX6_push cX6_push 4 none]
def wsX6_side : List Cond := .code yX6_side cX6_side 5 (some .long) :: ((wsX6_side_r1 ++ wsX6_side_r2) ++ wsX60)
def wsX6_costOf : List Cond := .code yX6_costOf cX6_costOf 6 (some .int) :: ([.constantLong RX6 144 (68719476736), .fieldLink RX6 19 "PlateauBenchModel" "pins" "[I", .methodLink RX6 68 yX6_refused, .instanceMethod yX6_refused, .selects RX6 yX6_refused yX6_refused, .initialized RX6, .code yX6_refused cX6_refused 2 (some .boolean), .fieldLink RX6 57 "PlateauBenchModel" "thrown" "I", .methodLink RX6 64 yX6_first, .static yX6_first, .code yX6_first cX6_first 1 (some .int), .methodLink RX6 86 yX6_second, .static yX6_second, .code yX6_second cX6_second 1 (some .int), .methodLink RX6 82 yX6_costOfEdge, .instanceMethod yX6_costOfEdge, .selects RX6 yX6_costOfEdge yX6_costOfEdge, .code yX6_costOfEdge cX6_costOfEdge 2 (some .int), .fieldLink RX6 7 "PlateauBenchModel" "prices" "[I", .fieldLink RX6 13 "PlateauBenchModel" "laid" "[I"] ++ wsX60)
def wsX6_pull_r1 : List Cond := [Cond.fieldLink RX6 22 "PlateauBenchModel" "bubbles" "[I", Cond.fieldLink RX6 76 "PlateauBenchModel" "work" "I", Cond.methodLink RX6 93 yX6_isNode, Cond.static yX6_isNode, Cond.initialized RX6, Cond.code yX6_isNode cX6_isNode 1 (some .boolean), Cond.methodLink RX6 60 yX6_in, Cond.static yX6_in, Cond.code yX6_in cX6_in 3 (some .boolean), Cond.methodLink RX6 146 yX6_isBubble, Cond.static yX6_isBubble, Cond.code yX6_isBubble cX6_isBubble 1 (some .boolean), Cond.methodLink RX6 68 yX6_refused, Cond.instanceMethod yX6_refused, Cond.selects RX6 yX6_refused yX6_refused, Cond.code yX6_refused cX6_refused 2 (some .boolean), Cond.fieldLink RX6 57 "PlateauBenchModel" "thrown" "I", Cond.methodLink RX6 72 yX6_energyNow, Cond.instanceMethod yX6_energyNow, Cond.selects RX6 yX6_energyNow yX6_energyNow, Cond.code yX6_energyNow cX6_energyNow 3 (some .int), Cond.methodLink RX6 64 yX6_first, Cond.static yX6_first, Cond.code yX6_first cX6_first 1 (some .int)]
def wsX6_pull_r2 : List Cond := [Cond.methodLink RX6 86 yX6_second, Cond.static yX6_second, Cond.code yX6_second cX6_second 1 (some .int), Cond.methodLink RX6 82 yX6_costOfEdge, Cond.instanceMethod yX6_costOfEdge, Cond.selects RX6 yX6_costOfEdge yX6_costOfEdge, Cond.code yX6_costOfEdge cX6_costOfEdge 2 (some .int), Cond.fieldLink RX6 7 "PlateauBenchModel" "prices" "[I", Cond.fieldLink RX6 13 "PlateauBenchModel" "laid" "[I"]
def wsX6_pull : List Cond := .code yX6_pull cX6_pull 5 (some .int) :: ((wsX6_pull_r1 ++ wsX6_pull_r2) ++ wsX60)
def wsX6_hold : List Cond := .code yX6_hold cX6_hold 4 (some .boolean) :: ([.fieldLink RX6 25 "PlateauBenchModel" "isHeld" "[Z", .methodLink RX6 146 yX6_isBubble, .static yX6_isBubble, .initialized RX6, .code yX6_isBubble cX6_isBubble 1 (some .boolean), .methodLink RX6 60 yX6_in, .static yX6_in, .code yX6_in cX6_in 3 (some .boolean), .methodLink RX6 68 yX6_refused, .instanceMethod yX6_refused, .selects RX6 yX6_refused yX6_refused, .code yX6_refused cX6_refused 2 (some .boolean), .fieldLink RX6 57 "PlateauBenchModel" "thrown" "I"] ++ wsX60)
def wsX6_wallsOf : List Cond := .code yX6_wallsOf cX6_wallsOf 6 (some .int) :: ([.fieldLink RX6 22 "PlateauBenchModel" "bubbles" "[I", .methodLink RX6 64 yX6_first, .static yX6_first, .initialized RX6, .code yX6_first cX6_first 1 (some .int), .methodLink RX6 86 yX6_second, .static yX6_second, .code yX6_second cX6_second 1 (some .int), .methodLink RX6 82 yX6_costOfEdge, .instanceMethod yX6_costOfEdge, .selects RX6 yX6_costOfEdge yX6_costOfEdge, .code yX6_costOfEdge cX6_costOfEdge 2 (some .int), .fieldLink RX6 7 "PlateauBenchModel" "prices" "[I", .fieldLink RX6 13 "PlateauBenchModel" "laid" "[I"] ++ wsX60)
def wsX6_isBeside : List Cond := .code yX6_isBeside cX6_isBeside 6 (some .boolean) :: ([.fieldLink RX6 22 "PlateauBenchModel" "bubbles" "[I", .methodLink RX6 64 yX6_first, .static yX6_first, .initialized RX6, .code yX6_first cX6_first 1 (some .int), .methodLink RX6 86 yX6_second, .static yX6_second, .code yX6_second cX6_second 1 (some .int)] ++ wsX60)
def wsX6_bestFor : List Cond := .code yX6_bestFor cX6_bestFor 8 (some .int) :: ([.fieldLink RX6 22 "PlateauBenchModel" "bubbles" "[I", .fieldLink RX6 25 "PlateauBenchModel" "isHeld" "[Z", .constant RX6 85 (1000000000), .methodLink RX6 149 yX6_wallsOf, .instanceMethod yX6_wallsOf, .selects RX6 yX6_wallsOf yX6_wallsOf, .initialized RX6, .code yX6_wallsOf cX6_wallsOf 6 (some .int), .methodLink RX6 64 yX6_first, .static yX6_first, .code yX6_first cX6_first 1 (some .int), .methodLink RX6 86 yX6_second, .static yX6_second, .code yX6_second cX6_second 1 (some .int), .methodLink RX6 82 yX6_costOfEdge, .instanceMethod yX6_costOfEdge, .selects RX6 yX6_costOfEdge yX6_costOfEdge, .code yX6_costOfEdge cX6_costOfEdge 2 (some .int), .fieldLink RX6 7 "PlateauBenchModel" "prices" "[I", .fieldLink RX6 13 "PlateauBenchModel" "laid" "[I", .methodLink RX6 152 yX6_isBeside, .instanceMethod yX6_isBeside, .selects RX6 yX6_isBeside yX6_isBeside, .code yX6_isBeside cX6_isBeside 6 (some .boolean)] ++ wsX60)
def wsX6_breath_r1 : List Cond := [Cond.fieldLink RX6 22 "PlateauBenchModel" "bubbles" "[I", Cond.methodLink RX6 156 yX6_bestFor, Cond.instanceMethod yX6_bestFor, Cond.selects RX6 yX6_bestFor yX6_bestFor, Cond.initialized RX6, Cond.code yX6_bestFor cX6_bestFor 8 (some .int), Cond.fieldLink RX6 25 "PlateauBenchModel" "isHeld" "[Z", Cond.constant RX6 85 (1000000000), Cond.methodLink RX6 149 yX6_wallsOf, Cond.instanceMethod yX6_wallsOf, Cond.selects RX6 yX6_wallsOf yX6_wallsOf, Cond.code yX6_wallsOf cX6_wallsOf 6 (some .int), Cond.methodLink RX6 64 yX6_first, Cond.static yX6_first, Cond.code yX6_first cX6_first 1 (some .int), Cond.methodLink RX6 86 yX6_second, Cond.static yX6_second, Cond.code yX6_second cX6_second 1 (some .int), Cond.methodLink RX6 82 yX6_costOfEdge, Cond.instanceMethod yX6_costOfEdge, Cond.selects RX6 yX6_costOfEdge yX6_costOfEdge, Cond.code yX6_costOfEdge cX6_costOfEdge 2 (some .int), Cond.fieldLink RX6 7 "PlateauBenchModel" "prices" "[I", Cond.fieldLink RX6 13 "PlateauBenchModel" "laid" "[I"]
def wsX6_breath_r2 : List Cond := [Cond.methodLink RX6 152 yX6_isBeside, Cond.instanceMethod yX6_isBeside, Cond.selects RX6 yX6_isBeside yX6_isBeside, Cond.code yX6_isBeside cX6_isBeside 6 (some .boolean)]
def wsX6_breath : List Cond := .code yX6_breath cX6_breath 4 (some .int) :: ((wsX6_breath_r1 ++ wsX6_breath_r2) ++ wsX60)
def wsX6_breathe_r1 : List Cond := [Cond.fieldLink RX6 162 "PlateauBenchModel" "lost" "I", Cond.methodLink RX6 60 yX6_in, Cond.static yX6_in, Cond.initialized RX6, Cond.code yX6_in cX6_in 3 (some .boolean), Cond.methodLink RX6 68 yX6_refused, Cond.instanceMethod yX6_refused, Cond.selects RX6 yX6_refused yX6_refused, Cond.code yX6_refused cX6_refused 2 (some .boolean), Cond.fieldLink RX6 57 "PlateauBenchModel" "thrown" "I", Cond.methodLink RX6 72 yX6_energyNow, Cond.instanceMethod yX6_energyNow, Cond.selects RX6 yX6_energyNow yX6_energyNow, Cond.code yX6_energyNow cX6_energyNow 3 (some .int), Cond.fieldLink RX6 22 "PlateauBenchModel" "bubbles" "[I", Cond.methodLink RX6 64 yX6_first, Cond.static yX6_first, Cond.code yX6_first cX6_first 1 (some .int), Cond.methodLink RX6 86 yX6_second, Cond.static yX6_second, Cond.code yX6_second cX6_second 1 (some .int), Cond.methodLink RX6 82 yX6_costOfEdge, Cond.instanceMethod yX6_costOfEdge, Cond.selects RX6 yX6_costOfEdge yX6_costOfEdge]
def wsX6_breathe_r2 : List Cond := [Cond.code yX6_costOfEdge cX6_costOfEdge 2 (some .int), Cond.fieldLink RX6 7 "PlateauBenchModel" "prices" "[I", Cond.fieldLink RX6 13 "PlateauBenchModel" "laid" "[I", Cond.methodLink RX6 159 yX6_breath, Cond.instanceMethod yX6_breath, Cond.selects RX6 yX6_breath yX6_breath, Cond.code yX6_breath cX6_breath 4 (some .int), Cond.methodLink RX6 156 yX6_bestFor, Cond.instanceMethod yX6_bestFor, Cond.selects RX6 yX6_bestFor yX6_bestFor, Cond.code yX6_bestFor cX6_bestFor 8 (some .int), Cond.fieldLink RX6 25 "PlateauBenchModel" "isHeld" "[Z", Cond.constant RX6 85 (1000000000), Cond.methodLink RX6 149 yX6_wallsOf, Cond.instanceMethod yX6_wallsOf, Cond.selects RX6 yX6_wallsOf yX6_wallsOf, Cond.code yX6_wallsOf cX6_wallsOf 6 (some .int), Cond.methodLink RX6 152 yX6_isBeside, Cond.instanceMethod yX6_isBeside, Cond.selects RX6 yX6_isBeside yX6_isBeside, Cond.code yX6_isBeside cX6_isBeside 6 (some .boolean)]
def wsX6_breathe : List Cond := .code yX6_breathe cX6_breathe 5 (some .int) :: ((wsX6_breathe_r1 ++ wsX6_breathe_r2) ++ wsX60)
def wsX6_bubbleAt : List Cond := .code yX6_bubbleAt cX6_bubbleAt 2 (some .int) :: ([.fieldLink RX6 22 "PlateauBenchModel" "bubbles" "[I", .methodLink RX6 93 yX6_isNode, .static yX6_isNode, .initialized RX6, .code yX6_isNode cX6_isNode 1 (some .boolean), .methodLink RX6 60 yX6_in, .static yX6_in, .code yX6_in cX6_in 3 (some .boolean), .methodLink RX6 68 yX6_refused, .instanceMethod yX6_refused, .selects RX6 yX6_refused yX6_refused, .code yX6_refused cX6_refused 2 (some .boolean), .fieldLink RX6 57 "PlateauBenchModel" "thrown" "I"] ++ wsX60)
def wsX6_nodesOf : List Cond := .code yX6_nodesOf cX6_nodesOf 4 (some .int) :: ([.fieldLink RX6 22 "PlateauBenchModel" "bubbles" "[I"] ++ wsX60)
def wsX6_piecesOf : List Cond := .code yX6_piecesOf cX6_piecesOf 7 (some .int) :: ([.fieldLink RX6 50 "PlateauBenchModel" "pieces" "[I", .fieldLink RX6 22 "PlateauBenchModel" "bubbles" "[I", .methodLink RX6 64 yX6_first, .static yX6_first, .initialized RX6, .code yX6_first cX6_first 1 (some .int), .methodLink RX6 86 yX6_second, .static yX6_second, .code yX6_second cX6_second 1 (some .int)] ++ wsX60)
def wsX6_wallBetween : List Cond := .code yX6_wallBetween cX6_wallBetween 7 (some .int) :: ([.fieldLink RX6 22 "PlateauBenchModel" "bubbles" "[I", .methodLink RX6 64 yX6_first, .static yX6_first, .initialized RX6, .code yX6_first cX6_first 1 (some .int), .methodLink RX6 86 yX6_second, .static yX6_second, .code yX6_second cX6_second 1 (some .int), .methodLink RX6 82 yX6_costOfEdge, .instanceMethod yX6_costOfEdge, .selects RX6 yX6_costOfEdge yX6_costOfEdge, .code yX6_costOfEdge cX6_costOfEdge 2 (some .int), .fieldLink RX6 7 "PlateauBenchModel" "prices" "[I", .fieldLink RX6 13 "PlateauBenchModel" "laid" "[I"] ++ wsX60)
def wsX6_wallsOfBubble : List Cond := .code yX6_wallsOfBubble cX6_wallsOfBubble 6 (some .int) :: ([.methodLink RX6 165 yX6_wallBetween, .instanceMethod yX6_wallBetween, .selects RX6 yX6_wallBetween yX6_wallBetween, .initialized RX6, .code yX6_wallBetween cX6_wallBetween 7 (some .int), .fieldLink RX6 22 "PlateauBenchModel" "bubbles" "[I", .methodLink RX6 64 yX6_first, .static yX6_first, .code yX6_first cX6_first 1 (some .int), .methodLink RX6 86 yX6_second, .static yX6_second, .code yX6_second cX6_second 1 (some .int), .methodLink RX6 82 yX6_costOfEdge, .instanceMethod yX6_costOfEdge, .selects RX6 yX6_costOfEdge yX6_costOfEdge, .code yX6_costOfEdge cX6_costOfEdge 2 (some .int), .fieldLink RX6 7 "PlateauBenchModel" "prices" "[I", .fieldLink RX6 13 "PlateauBenchModel" "laid" "[I"] ++ wsX60)
def wsX6_bubble_r1 : List Cond := [Cond.fieldLink RX6 25 "PlateauBenchModel" "isHeld" "[Z", Cond.methodLink RX6 146 yX6_isBubble, Cond.static yX6_isBubble, Cond.initialized RX6, Cond.code yX6_isBubble cX6_isBubble 1 (some .boolean), Cond.methodLink RX6 60 yX6_in, Cond.static yX6_in, Cond.code yX6_in cX6_in 3 (some .boolean), Cond.methodLink RX6 68 yX6_refused, Cond.instanceMethod yX6_refused, Cond.selects RX6 yX6_refused yX6_refused, Cond.code yX6_refused cX6_refused 2 (some .boolean), Cond.fieldLink RX6 57 "PlateauBenchModel" "thrown" "I", Cond.methodLink RX6 168 yX6_nodesOf, Cond.instanceMethod yX6_nodesOf, Cond.selects RX6 yX6_nodesOf yX6_nodesOf, Cond.code yX6_nodesOf cX6_nodesOf 4 (some .int), Cond.fieldLink RX6 22 "PlateauBenchModel" "bubbles" "[I", Cond.methodLink RX6 171 yX6_piecesOf, Cond.instanceMethod yX6_piecesOf, Cond.selects RX6 yX6_piecesOf yX6_piecesOf, Cond.code yX6_piecesOf cX6_piecesOf 7 (some .int), Cond.fieldLink RX6 50 "PlateauBenchModel" "pieces" "[I", Cond.methodLink RX6 64 yX6_first]
def wsX6_bubble_r2 : List Cond := [Cond.static yX6_first, Cond.code yX6_first cX6_first 1 (some .int), Cond.methodLink RX6 86 yX6_second, Cond.static yX6_second, Cond.code yX6_second cX6_second 1 (some .int), Cond.methodLink RX6 174 yX6_wallsOfBubble, Cond.instanceMethod yX6_wallsOfBubble, Cond.selects RX6 yX6_wallsOfBubble yX6_wallsOfBubble, Cond.code yX6_wallsOfBubble cX6_wallsOfBubble 6 (some .int), Cond.methodLink RX6 165 yX6_wallBetween, Cond.instanceMethod yX6_wallBetween, Cond.selects RX6 yX6_wallBetween yX6_wallBetween, Cond.code yX6_wallBetween cX6_wallBetween 7 (some .int), Cond.methodLink RX6 82 yX6_costOfEdge, Cond.instanceMethod yX6_costOfEdge, Cond.selects RX6 yX6_costOfEdge yX6_costOfEdge, Cond.code yX6_costOfEdge cX6_costOfEdge 2 (some .int), Cond.fieldLink RX6 7 "PlateauBenchModel" "prices" "[I", Cond.fieldLink RX6 13 "PlateauBenchModel" "laid" "[I"]
def wsX6_bubble : List Cond := .code yX6_bubble cX6_bubble 3 (some .int) :: ((wsX6_bubble_r1 ++ wsX6_bubble_r2) ++ wsX60)
def wsX6_wall_r1 : List Cond := [Cond.methodLink RX6 146 yX6_isBubble, Cond.static yX6_isBubble, Cond.initialized RX6, Cond.code yX6_isBubble cX6_isBubble 1 (some .boolean), Cond.methodLink RX6 60 yX6_in, Cond.static yX6_in, Cond.code yX6_in cX6_in 3 (some .boolean), Cond.methodLink RX6 68 yX6_refused, Cond.instanceMethod yX6_refused, Cond.selects RX6 yX6_refused yX6_refused, Cond.code yX6_refused cX6_refused 2 (some .boolean), Cond.fieldLink RX6 57 "PlateauBenchModel" "thrown" "I", Cond.methodLink RX6 165 yX6_wallBetween, Cond.instanceMethod yX6_wallBetween, Cond.selects RX6 yX6_wallBetween yX6_wallBetween, Cond.code yX6_wallBetween cX6_wallBetween 7 (some .int), Cond.fieldLink RX6 22 "PlateauBenchModel" "bubbles" "[I", Cond.methodLink RX6 64 yX6_first, Cond.static yX6_first, Cond.code yX6_first cX6_first 1 (some .int), Cond.methodLink RX6 86 yX6_second, Cond.static yX6_second, Cond.code yX6_second cX6_second 1 (some .int), Cond.methodLink RX6 82 yX6_costOfEdge]
def wsX6_wall_r2 : List Cond := [Cond.instanceMethod yX6_costOfEdge, Cond.selects RX6 yX6_costOfEdge yX6_costOfEdge, Cond.code yX6_costOfEdge cX6_costOfEdge 2 (some .int), Cond.fieldLink RX6 7 "PlateauBenchModel" "prices" "[I", Cond.fieldLink RX6 13 "PlateauBenchModel" "laid" "[I"]
def wsX6_wall : List Cond := .code yX6_wall cX6_wall 3 (some .int) :: ((wsX6_wall_r1 ++ wsX6_wall_r2) ++ wsX60)
def wsX6_kindsAt : List Cond := .code yX6_kindsAt cX6_kindsAt 5 (some .int) :: ([.fieldLink RX6 22 "PlateauBenchModel" "bubbles" "[I"] ++ wsX60)
def wsX6_corners : List Cond := .code yX6_corners cX6_corners 4 (some .int) :: ([.methodLink RX6 60 yX6_in, .static yX6_in, .initialized RX6, .code yX6_in cX6_in 3 (some .boolean), .methodLink RX6 68 yX6_refused, .instanceMethod yX6_refused, .selects RX6 yX6_refused yX6_refused, .code yX6_refused cX6_refused 2 (some .boolean), .fieldLink RX6 57 "PlateauBenchModel" "thrown" "I", .methodLink RX6 177 yX6_kindsAt, .instanceMethod yX6_kindsAt, .selects RX6 yX6_kindsAt yX6_kindsAt, .code yX6_kindsAt cX6_kindsAt 5 (some .int), .fieldLink RX6 22 "PlateauBenchModel" "bubbles" "[I"] ++ wsX60)
def wsX6_resting_r1 : List Cond := [Cond.fieldLink RX6 47 "PlateauBenchModel" "kept" "[I", Cond.fieldLink RX6 22 "PlateauBenchModel" "bubbles" "[I", Cond.methodLink RX6 159 yX6_breath, Cond.instanceMethod yX6_breath, Cond.selects RX6 yX6_breath yX6_breath, Cond.initialized RX6, Cond.code yX6_breath cX6_breath 4 (some .int), Cond.methodLink RX6 156 yX6_bestFor, Cond.instanceMethod yX6_bestFor, Cond.selects RX6 yX6_bestFor yX6_bestFor, Cond.code yX6_bestFor cX6_bestFor 8 (some .int), Cond.fieldLink RX6 25 "PlateauBenchModel" "isHeld" "[Z", Cond.constant RX6 85 (1000000000), Cond.methodLink RX6 149 yX6_wallsOf, Cond.instanceMethod yX6_wallsOf, Cond.selects RX6 yX6_wallsOf yX6_wallsOf, Cond.code yX6_wallsOf cX6_wallsOf 6 (some .int), Cond.methodLink RX6 64 yX6_first, Cond.static yX6_first, Cond.code yX6_first cX6_first 1 (some .int), Cond.methodLink RX6 86 yX6_second, Cond.static yX6_second, Cond.code yX6_second cX6_second 1 (some .int), Cond.methodLink RX6 82 yX6_costOfEdge]
def wsX6_resting_r2 : List Cond := [Cond.instanceMethod yX6_costOfEdge, Cond.selects RX6 yX6_costOfEdge yX6_costOfEdge, Cond.code yX6_costOfEdge cX6_costOfEdge 2 (some .int), Cond.fieldLink RX6 7 "PlateauBenchModel" "prices" "[I", Cond.fieldLink RX6 13 "PlateauBenchModel" "laid" "[I", Cond.methodLink RX6 152 yX6_isBeside, Cond.instanceMethod yX6_isBeside, Cond.selects RX6 yX6_isBeside yX6_isBeside, Cond.code yX6_isBeside cX6_isBeside 6 (some .boolean), Cond.methodLink RX6 72 yX6_energyNow, Cond.instanceMethod yX6_energyNow, Cond.selects RX6 yX6_energyNow yX6_energyNow, Cond.code yX6_energyNow cX6_energyNow 3 (some .int)]
def wsX6_resting : List Cond := .code yX6_resting cX6_resting 5 (some .int) :: ((wsX6_resting_r1 ++ wsX6_resting_r2) ++ wsX60)
def wsX6_rests_r1 : List Cond := [Cond.fieldLink RX6 57 "PlateauBenchModel" "thrown" "I", Cond.methodLink RX6 180 yX6_resting, Cond.instanceMethod yX6_resting, Cond.selects RX6 yX6_resting yX6_resting, Cond.initialized RX6, Cond.code yX6_resting cX6_resting 5 (some .int), Cond.fieldLink RX6 47 "PlateauBenchModel" "kept" "[I", Cond.fieldLink RX6 22 "PlateauBenchModel" "bubbles" "[I", Cond.methodLink RX6 159 yX6_breath, Cond.instanceMethod yX6_breath, Cond.selects RX6 yX6_breath yX6_breath, Cond.code yX6_breath cX6_breath 4 (some .int), Cond.methodLink RX6 156 yX6_bestFor, Cond.instanceMethod yX6_bestFor, Cond.selects RX6 yX6_bestFor yX6_bestFor, Cond.code yX6_bestFor cX6_bestFor 8 (some .int), Cond.fieldLink RX6 25 "PlateauBenchModel" "isHeld" "[Z", Cond.constant RX6 85 (1000000000), Cond.methodLink RX6 149 yX6_wallsOf, Cond.instanceMethod yX6_wallsOf, Cond.selects RX6 yX6_wallsOf yX6_wallsOf, Cond.code yX6_wallsOf cX6_wallsOf 6 (some .int), Cond.methodLink RX6 64 yX6_first, Cond.static yX6_first]
def wsX6_rests_r2 : List Cond := [Cond.code yX6_first cX6_first 1 (some .int), Cond.methodLink RX6 86 yX6_second, Cond.static yX6_second, Cond.code yX6_second cX6_second 1 (some .int), Cond.methodLink RX6 82 yX6_costOfEdge, Cond.instanceMethod yX6_costOfEdge, Cond.selects RX6 yX6_costOfEdge yX6_costOfEdge, Cond.code yX6_costOfEdge cX6_costOfEdge 2 (some .int), Cond.fieldLink RX6 7 "PlateauBenchModel" "prices" "[I", Cond.fieldLink RX6 13 "PlateauBenchModel" "laid" "[I", Cond.methodLink RX6 152 yX6_isBeside, Cond.instanceMethod yX6_isBeside, Cond.selects RX6 yX6_isBeside yX6_isBeside, Cond.code yX6_isBeside cX6_isBeside 6 (some .boolean), Cond.methodLink RX6 72 yX6_energyNow, Cond.instanceMethod yX6_energyNow, Cond.selects RX6 yX6_energyNow yX6_energyNow, Cond.code yX6_energyNow cX6_energyNow 3 (some .int)]
def wsX6_rests : List Cond := .code yX6_rests cX6_rests 1 (some .int) :: ((wsX6_rests_r1 ++ wsX6_rests_r2) ++ wsX60)
def wsX6_energy_r1 : List Cond := [Cond.fieldLink RX6 76 "PlateauBenchModel" "work" "I", Cond.fieldLink RX6 162 "PlateauBenchModel" "lost" "I", Cond.methodLink RX6 60 yX6_in, Cond.static yX6_in, Cond.initialized RX6, Cond.code yX6_in cX6_in 3 (some .boolean), Cond.methodLink RX6 68 yX6_refused, Cond.instanceMethod yX6_refused, Cond.selects RX6 yX6_refused yX6_refused, Cond.code yX6_refused cX6_refused 2 (some .boolean), Cond.fieldLink RX6 57 "PlateauBenchModel" "thrown" "I", Cond.methodLink RX6 72 yX6_energyNow, Cond.instanceMethod yX6_energyNow, Cond.selects RX6 yX6_energyNow yX6_energyNow, Cond.code yX6_energyNow cX6_energyNow 3 (some .int), Cond.fieldLink RX6 22 "PlateauBenchModel" "bubbles" "[I", Cond.methodLink RX6 64 yX6_first, Cond.static yX6_first, Cond.code yX6_first cX6_first 1 (some .int), Cond.methodLink RX6 86 yX6_second, Cond.static yX6_second, Cond.code yX6_second cX6_second 1 (some .int), Cond.methodLink RX6 82 yX6_costOfEdge, Cond.instanceMethod yX6_costOfEdge]
def wsX6_energy_r2 : List Cond := [Cond.selects RX6 yX6_costOfEdge yX6_costOfEdge, Cond.code yX6_costOfEdge cX6_costOfEdge 2 (some .int), Cond.fieldLink RX6 7 "PlateauBenchModel" "prices" "[I", Cond.fieldLink RX6 13 "PlateauBenchModel" "laid" "[I", Cond.methodLink RX6 180 yX6_resting, Cond.instanceMethod yX6_resting, Cond.selects RX6 yX6_resting yX6_resting, Cond.code yX6_resting cX6_resting 5 (some .int), Cond.fieldLink RX6 47 "PlateauBenchModel" "kept" "[I", Cond.methodLink RX6 159 yX6_breath, Cond.instanceMethod yX6_breath, Cond.selects RX6 yX6_breath yX6_breath, Cond.code yX6_breath cX6_breath 4 (some .int), Cond.methodLink RX6 156 yX6_bestFor, Cond.instanceMethod yX6_bestFor, Cond.selects RX6 yX6_bestFor yX6_bestFor, Cond.code yX6_bestFor cX6_bestFor 8 (some .int), Cond.fieldLink RX6 25 "PlateauBenchModel" "isHeld" "[Z", Cond.constant RX6 85 (1000000000), Cond.methodLink RX6 149 yX6_wallsOf, Cond.instanceMethod yX6_wallsOf, Cond.selects RX6 yX6_wallsOf yX6_wallsOf, Cond.code yX6_wallsOf cX6_wallsOf 6 (some .int), Cond.methodLink RX6 152 yX6_isBeside]
def wsX6_energy_r3 : List Cond := [Cond.instanceMethod yX6_isBeside, Cond.selects RX6 yX6_isBeside yX6_isBeside, Cond.code yX6_isBeside cX6_isBeside 6 (some .boolean)]
def wsX6_energy : List Cond := .code yX6_energy cX6_energy 2 (some .int) :: ((wsX6_energy_r1 ++ (wsX6_energy_r2 ++ wsX6_energy_r3)) ++ wsX60)
def wsJ9_max_7cf53 : List Cond := .code yJ9_max_7cf53 cJ9_max_7cf53 2 (some .int) :: ([])
def wsJ9_min_7cf53 : List Cond := .code yJ9_min_7cf53 cJ9_min_7cf53 2 (some .int) :: ([])
def wsL_cost_r1 : List Cond := [Cond.classLink RL 13 "java/lang/IllegalArgumentException", Cond.methodLink RL 7 yX5_cost, Cond.instanceMethod yX5_cost, Cond.selects RX5 yX5_cost yX5_cost, Cond.initialized RX5, Cond.code yX5_cost cX5_cost 5 (some .int), Cond.classLink RX5 44 "java/lang/IllegalArgumentException", Cond.initialized "java/lang/IllegalArgumentException", Cond.fieldLink RX5 40 "PlateauBench" "foam" "LPlateauBench$Foam;", Cond.fieldLink RX5 10 "PlateauBench" "grid" "LPlateauBench$Grid;", Cond.methodLink RX5 53 yX1_energyNow, Cond.instanceMethod yX1_energyNow, Cond.selects RX1 yX1_energyNow yX1_energyNow, Cond.initialized RX1, Cond.code yX1_energyNow cX1_energyNow 2 (some .int), Cond.fieldLink RX1 9 "PlateauBench$Foam" "owners" "[I", Cond.methodLink RX1 35 yX1_energyOf, Cond.static yX1_energyOf, Cond.code yX1_energyOf cX1_energyOf 4 (some .int), Cond.methodLink RX1 39 yX2_low, Cond.instanceMethod yX2_low, Cond.selects RX2 yX2_low yX2_low, Cond.initialized RX2, Cond.code yX2_low cX2_low 2 (some .int)]
def wsL_cost_r2 : List Cond := [Cond.fieldLink RX2 9 "PlateauBench$Grid" "low" "[I", Cond.methodLink RX1 45 yX2_high, Cond.instanceMethod yX2_high, Cond.selects RX2 yX2_high yX2_high, Cond.code yX2_high cX2_high 2 (some .int), Cond.fieldLink RX2 15 "PlateauBench$Grid" "high" "[I", Cond.methodLink RX1 48 yX2_price, Cond.instanceMethod yX2_price, Cond.selects RX2 yX2_price yX2_price, Cond.code yX2_price cX2_price 2 (some .int), Cond.fieldLink RX2 24 "PlateauBench$Grid" "prices" "[I", Cond.methodLink RX5 57 yX2_changeDirection, Cond.instanceMethod yX2_changeDirection, Cond.selects RX2 yX2_changeDirection yX2_changeDirection, Cond.code yX2_changeDirection cX2_changeDirection 5 (some .int), Cond.fieldLink RX2 27 "PlateauBench$Grid" "across" "I", Cond.fieldLink RX2 31 "PlateauBench$Grid" "down" "I", Cond.fieldLink RX2 21 "PlateauBench$Grid" "laid" "[I", Cond.methodLink RX5 61 yX5_takeInNewPrices, Cond.instanceMethod yX5_takeInNewPrices, Cond.selects RX5 yX5_takeInNewPrices yX5_takeInNewPrices, Cond.code yX5_takeInNewPrices cX5_takeInNewPrices 2 none, Cond.fieldLink RX5 26 "PlateauBench" "nets" "LPlateauBench$Nets;", Cond.methodLink RX5 209 yX3_forget]
def wsL_cost_r3 : List Cond := [Cond.instanceMethod yX3_forget, Cond.selects RX3 yX3_forget yX3_forget, Cond.initialized RX3, Cond.code yX3_forget cX3_forget 1 none, Cond.fieldLink RX3 22 "PlateauBench$Nets" "isJoined" "Z", Cond.methodLink RX5 212 yX1_addWork, Cond.instanceMethod yX1_addWork, Cond.selects RX1 yX1_addWork yX1_addWork, Cond.code yX1_addWork cX1_addWork 2 none, Cond.fieldLink RX1 28 "PlateauBench$Foam" "work" "I"]
def wsL_cost : List Cond := .codeWith yL_cost cL_cost 5 (some .int) [(0, 10, 13, 13)] :: ((wsL_cost_r1 ++ (wsL_cost_r2 ++ wsL_cost_r3)) ++ wsX50 ++ wsX10 ++ wsX20 ++ wsX30 ++ (vx_atS RX5 48 "java/lang/IllegalArgumentException" ["java/lang/RuntimeException", "java/lang/Exception"]).filter goodWord)
def wsL_lay_r1 : List Cond := [Cond.classLink RL 18 "java/lang/IndexOutOfBoundsException", Cond.classLink RL 13 "java/lang/IllegalArgumentException", Cond.methodLink RL 15 yX5_lay, Cond.instanceMethod yX5_lay, Cond.selects RX5 yX5_lay yX5_lay, Cond.initialized RX5, Cond.code yX5_lay cX5_lay 5 (some .int), Cond.classLink RX5 44 "java/lang/IllegalArgumentException", Cond.initialized "java/lang/IllegalArgumentException", Cond.fieldLink RX5 40 "PlateauBench" "foam" "LPlateauBench$Foam;", Cond.fieldLink RX5 10 "PlateauBench" "grid" "LPlateauBench$Grid;", Cond.methodLink RX5 65 yX5_checkEdge, Cond.static yX5_checkEdge, Cond.code yX5_checkEdge cX5_checkEdge 1 none, Cond.classLink RX5 215 "java/lang/IndexOutOfBoundsException", Cond.initialized "java/lang/IndexOutOfBoundsException", Cond.methodLink RX5 53 yX1_energyNow, Cond.instanceMethod yX1_energyNow, Cond.selects RX1 yX1_energyNow yX1_energyNow, Cond.initialized RX1, Cond.code yX1_energyNow cX1_energyNow 2 (some .int), Cond.fieldLink RX1 9 "PlateauBench$Foam" "owners" "[I", Cond.methodLink RX1 35 yX1_energyOf, Cond.static yX1_energyOf]
def wsL_lay_r2 : List Cond := [Cond.code yX1_energyOf cX1_energyOf 4 (some .int), Cond.methodLink RX1 39 yX2_low, Cond.instanceMethod yX2_low, Cond.selects RX2 yX2_low yX2_low, Cond.initialized RX2, Cond.code yX2_low cX2_low 2 (some .int), Cond.fieldLink RX2 9 "PlateauBench$Grid" "low" "[I", Cond.methodLink RX1 45 yX2_high, Cond.instanceMethod yX2_high, Cond.selects RX2 yX2_high yX2_high, Cond.code yX2_high cX2_high 2 (some .int), Cond.fieldLink RX2 15 "PlateauBench$Grid" "high" "[I", Cond.methodLink RX1 48 yX2_price, Cond.instanceMethod yX2_price, Cond.selects RX2 yX2_price yX2_price, Cond.code yX2_price cX2_price 2 (some .int), Cond.fieldLink RX2 24 "PlateauBench$Grid" "prices" "[I", Cond.methodLink RX5 70 yX2_changeLaid, Cond.instanceMethod yX2_changeLaid, Cond.selects RX2 yX2_changeLaid yX2_changeLaid, Cond.code yX2_changeLaid cX2_changeLaid 4 (some .int), Cond.fieldLink RX2 21 "PlateauBench$Grid" "laid" "[I", Cond.fieldLink RX2 27 "PlateauBench$Grid" "across" "I", Cond.fieldLink RX2 31 "PlateauBench$Grid" "down" "I"]
def wsL_lay_r3 : List Cond := [Cond.methodLink RX5 61 yX5_takeInNewPrices, Cond.instanceMethod yX5_takeInNewPrices, Cond.selects RX5 yX5_takeInNewPrices yX5_takeInNewPrices, Cond.code yX5_takeInNewPrices cX5_takeInNewPrices 2 none, Cond.fieldLink RX5 26 "PlateauBench" "nets" "LPlateauBench$Nets;", Cond.methodLink RX5 209 yX3_forget, Cond.instanceMethod yX3_forget, Cond.selects RX3 yX3_forget yX3_forget, Cond.initialized RX3, Cond.code yX3_forget cX3_forget 1 none, Cond.fieldLink RX3 22 "PlateauBench$Nets" "isJoined" "Z", Cond.methodLink RX5 212 yX1_addWork, Cond.instanceMethod yX1_addWork, Cond.selects RX1 yX1_addWork yX1_addWork, Cond.code yX1_addWork cX1_addWork 2 none, Cond.fieldLink RX1 28 "PlateauBench$Foam" "work" "I"]
def wsL_lay : List Cond := .codeWith yL_lay cL_lay 5 (some .int) [(0, 10, 13, 18), (0, 10, 17, 13)] :: ((wsL_lay_r1 ++ (wsL_lay_r2 ++ wsL_lay_r3)) ++ wsX50 ++ wsX10 ++ wsX20 ++ wsX30 ++ (vx_atS RX5 48 "java/lang/IllegalArgumentException" ["java/lang/RuntimeException", "java/lang/Exception"]).filter goodWord ++ (vx_atS RX5 219 "java/lang/IndexOutOfBoundsException" ["java/lang/RuntimeException", "java/lang/Exception"]).filter goodWord)
def wsL_edge : List Cond := .codeWith yL_edge cL_edge 4 (some .int) [(0, 9, 12, 18)] :: ([.classLink RL 18 "java/lang/IndexOutOfBoundsException", .methodLink RL 20 yX5_edge, .instanceMethod yX5_edge, .selects RX5 yX5_edge yX5_edge, .initialized RX5, .code yX5_edge cX5_edge 2 (some .int), .fieldLink RX5 10 "PlateauBench" "grid" "LPlateauBench$Grid;", .methodLink RX5 65 yX5_checkEdge, .static yX5_checkEdge, .code yX5_checkEdge cX5_checkEdge 1 none, .classLink RX5 215 "java/lang/IndexOutOfBoundsException", .initialized "java/lang/IndexOutOfBoundsException", .methodLink RX5 73 yX2_price, .instanceMethod yX2_price, .selects RX2 yX2_price yX2_price, .initialized RX2, .code yX2_price cX2_price 2 (some .int), .fieldLink RX2 24 "PlateauBench$Grid" "prices" "[I"] ++ wsX50 ++ wsX20 ++ (vx_atS RX5 219 "java/lang/IndexOutOfBoundsException" ["java/lang/RuntimeException", "java/lang/Exception"]).filter goodWord)
def wsL_apart_r1 : List Cond := [Cond.classLink RL 18 "java/lang/IndexOutOfBoundsException", Cond.methodLink RL 24 yX5_apart, Cond.instanceMethod yX5_apart, Cond.selects RX5 yX5_apart yX5_apart, Cond.initialized RX5, Cond.code yX5_apart cX5_apart 3 (some .int), Cond.fieldLink RX5 19 "PlateauBench" "ways" "LPlateauBench$TwoWays;", Cond.fieldLink RX5 10 "PlateauBench" "grid" "LPlateauBench$Grid;", Cond.methodLink RX5 77 yX5_checkNode, Cond.static yX5_checkNode, Cond.code yX5_checkNode cX5_checkNode 1 none, Cond.classLink RX5 215 "java/lang/IndexOutOfBoundsException", Cond.initialized "java/lang/IndexOutOfBoundsException", Cond.methodLink RX5 80 yX4_cheapest, Cond.instanceMethod yX4_cheapest, Cond.selects RX4 yX4_cheapest yX4_cheapest, Cond.initialized RX4, Cond.code yX4_cheapest cX4_cheapest 4 (some .int), Cond.fieldLink RX4 9 "PlateauBench$TwoWays" "row" "[I", Cond.methodLink RX4 18 yX2_measure, Cond.instanceMethod yX2_measure, Cond.selects RX2 yX2_measure yX2_measure, Cond.initialized RX2, Cond.code yX2_measure cX2_measure 5 none]
def wsL_apart_r2 : List Cond := [Cond.constant RX2 34 (1000000), Cond.methodLink RX2 35 yX2_settle, Cond.instanceMethod yX2_settle, Cond.selects RX2 yX2_settle yX2_settle, Cond.code yX2_settle cX2_settle 6 none, Cond.methodLink RX2 39 yX2_lower, Cond.instanceMethod yX2_lower, Cond.selects RX2 yX2_lower yX2_lower, Cond.code yX2_lower cX2_lower 7 (some .boolean), Cond.fieldLink RX2 9 "PlateauBench$Grid" "low" "[I", Cond.fieldLink RX2 15 "PlateauBench$Grid" "high" "[I", Cond.fieldLink RX2 24 "PlateauBench$Grid" "prices" "[I"]
def wsL_apart : List Cond := .codeWith yL_apart cL_apart 5 (some .int) [(0, 10, 13, 18)] :: ((wsL_apart_r1 ++ wsL_apart_r2) ++ wsX50 ++ wsX40 ++ wsX20 ++ (vx_atS RX5 219 "java/lang/IndexOutOfBoundsException" ["java/lang/RuntimeException", "java/lang/Exception"]).filter goodWord)
def wsL_town_r1 : List Cond := [Cond.classLink RL 18 "java/lang/IndexOutOfBoundsException", Cond.classLink RL 30 "java/lang/IllegalStateException", Cond.methodLink RL 27 yX5_town, Cond.instanceMethod yX5_town, Cond.selects RX5 yX5_town yX5_town, Cond.initialized RX5, Cond.code yX5_town cX5_town 2 (some .int), Cond.classLink RX5 92 "java/lang/IllegalStateException", Cond.initialized "java/lang/IllegalStateException", Cond.fieldLink RX5 26 "PlateauBench" "nets" "LPlateauBench$Nets;", Cond.methodLink RX5 77 yX5_checkNode, Cond.static yX5_checkNode, Cond.code yX5_checkNode cX5_checkNode 1 none, Cond.classLink RX5 215 "java/lang/IndexOutOfBoundsException", Cond.initialized "java/lang/IndexOutOfBoundsException", Cond.methodLink RX5 84 yX3_hasTownAt, Cond.instanceMethod yX3_hasTownAt, Cond.selects RX3 yX3_hasTownAt yX3_hasTownAt, Cond.initialized RX3, Cond.code yX3_hasTownAt cX3_hasTownAt 3 (some .boolean), Cond.fieldLink RX3 15 "PlateauBench$Nets" "count" "I", Cond.fieldLink RX3 9 "PlateauBench$Nets" "nodes" "[I", Cond.methodLink RX5 88 yX3_isFull, Cond.instanceMethod yX3_isFull]
def wsL_town_r2 : List Cond := [Cond.selects RX3 yX3_isFull yX3_isFull, Cond.code yX3_isFull cX3_isFull 1 (some .boolean), Cond.methodLink RX5 97 yX3_add, Cond.instanceMethod yX3_add, Cond.selects RX3 yX3_add yX3_add, Cond.code yX3_add cX3_add 2 (some .int), Cond.methodLink RX3 35 yX3_forget, Cond.instanceMethod yX3_forget, Cond.selects RX3 yX3_forget yX3_forget, Cond.code yX3_forget cX3_forget 1 none, Cond.fieldLink RX3 22 "PlateauBench$Nets" "isJoined" "Z"]
def wsL_town : List Cond := .codeWith yL_town cL_town 4 (some .int) [(0, 9, 12, 18), (0, 9, 15, 30)] :: ((wsL_town_r1 ++ wsL_town_r2) ++ wsX50 ++ wsX30 ++ (vx_atS RX5 96 "java/lang/IllegalStateException" ["java/lang/RuntimeException", "java/lang/Exception"]).filter goodWord ++ (vx_atS RX5 219 "java/lang/IndexOutOfBoundsException" ["java/lang/RuntimeException", "java/lang/Exception"]).filter goodWord)
def wsL_away_r1 : List Cond := [Cond.classLink RL 18 "java/lang/IndexOutOfBoundsException", Cond.methodLink RL 32 yX5_away, Cond.instanceMethod yX5_away, Cond.selects RX5 yX5_away yX5_away, Cond.initialized RX5, Cond.code yX5_away cX5_away 2 (some .int), Cond.fieldLink RX5 26 "PlateauBench" "nets" "LPlateauBench$Nets;", Cond.methodLink RX5 100 yX5_checkTown, Cond.instanceMethod yX5_checkTown, Cond.selects RX5 yX5_checkTown yX5_checkTown, Cond.code yX5_checkTown cX5_checkTown 2 none, Cond.classLink RX5 215 "java/lang/IndexOutOfBoundsException", Cond.initialized "java/lang/IndexOutOfBoundsException", Cond.methodLink RX5 222 yX3_size, Cond.instanceMethod yX3_size, Cond.selects RX3 yX3_size yX3_size, Cond.initialized RX3, Cond.code yX3_size cX3_size 1 (some .int), Cond.fieldLink RX3 15 "PlateauBench$Nets" "count" "I", Cond.methodLink RX5 103 yX3_remove, Cond.instanceMethod yX3_remove, Cond.selects RX3 yX3_remove yX3_remove, Cond.code yX3_remove cX3_remove 4 (some .int), Cond.fieldLink RX3 9 "PlateauBench$Nets" "nodes" "[I"]
def wsL_away_r2 : List Cond := [Cond.methodLink RX3 35 yX3_forget, Cond.instanceMethod yX3_forget, Cond.selects RX3 yX3_forget yX3_forget, Cond.code yX3_forget cX3_forget 1 none, Cond.fieldLink RX3 22 "PlateauBench$Nets" "isJoined" "Z"]
def wsL_away : List Cond := .codeWith yL_away cL_away 4 (some .int) [(0, 9, 12, 18)] :: ((wsL_away_r1 ++ wsL_away_r2) ++ wsX50 ++ wsX30 ++ (vx_atS RX5 219 "java/lang/IndexOutOfBoundsException" ["java/lang/RuntimeException", "java/lang/Exception"]).filter goodWord)
def wsL_townAt : List Cond := .codeWith yL_townAt cL_townAt 4 (some .int) [(0, 9, 12, 18)] :: ([.classLink RL 18 "java/lang/IndexOutOfBoundsException", .methodLink RL 35 yX5_townAt, .instanceMethod yX5_townAt, .selects RX5 yX5_townAt yX5_townAt, .initialized RX5, .code yX5_townAt cX5_townAt 2 (some .int), .fieldLink RX5 26 "PlateauBench" "nets" "LPlateauBench$Nets;", .methodLink RX5 100 yX5_checkTown, .instanceMethod yX5_checkTown, .selects RX5 yX5_checkTown yX5_checkTown, .code yX5_checkTown cX5_checkTown 2 none, .classLink RX5 215 "java/lang/IndexOutOfBoundsException", .initialized "java/lang/IndexOutOfBoundsException", .methodLink RX5 222 yX3_size, .instanceMethod yX3_size, .selects RX3 yX3_size yX3_size, .initialized RX3, .code yX3_size cX3_size 1 (some .int), .fieldLink RX3 15 "PlateauBench$Nets" "count" "I", .methodLink RX5 106 yX3_nodeOf, .instanceMethod yX3_nodeOf, .selects RX3 yX3_nodeOf yX3_nodeOf, .code yX3_nodeOf cX3_nodeOf 2 (some .int), .fieldLink RX3 9 "PlateauBench$Nets" "nodes" "[I"] ++ wsX50 ++ wsX30 ++ (vx_atS RX5 219 "java/lang/IndexOutOfBoundsException" ["java/lang/RuntimeException", "java/lang/Exception"]).filter goodWord)
def wsL_isUsed_r1 : List Cond := [Cond.classLink RL 18 "java/lang/IndexOutOfBoundsException", Cond.methodLink RL 38 yX5_isUsed, Cond.instanceMethod yX5_isUsed, Cond.selects RX5 yX5_isUsed yX5_isUsed, Cond.initialized RX5, Cond.code yX5_isUsed cX5_isUsed 2 (some .boolean), Cond.fieldLink RX5 26 "PlateauBench" "nets" "LPlateauBench$Nets;", Cond.fieldLink RX5 10 "PlateauBench" "grid" "LPlateauBench$Grid;", Cond.methodLink RX5 65 yX5_checkEdge, Cond.static yX5_checkEdge, Cond.code yX5_checkEdge cX5_checkEdge 1 none, Cond.classLink RX5 215 "java/lang/IndexOutOfBoundsException", Cond.initialized "java/lang/IndexOutOfBoundsException", Cond.methodLink RX5 117 yX3_isInCheapest, Cond.instanceMethod yX3_isInCheapest, Cond.selects RX3 yX3_isInCheapest yX3_isInCheapest, Cond.initialized RX3, Cond.code yX3_isInCheapest cX3_isInCheapest 9 (some .boolean), Cond.fieldLink RX3 15 "PlateauBench$Nets" "count" "I", Cond.fieldLink RX3 19 "PlateauBench$Nets" "joined" "[I", Cond.fieldLink RX3 9 "PlateauBench$Nets" "nodes" "[I", Cond.methodLink RX3 38 yX3_joinAll, Cond.instanceMethod yX3_joinAll, Cond.selects RX3 yX3_joinAll yX3_joinAll]
def wsL_isUsed_r2 : List Cond := [Cond.code yX3_joinAll cX3_joinAll 4 none, Cond.fieldLink RX3 22 "PlateauBench$Nets" "isJoined" "Z", Cond.methodLink RX3 58 yX2_measure, Cond.instanceMethod yX2_measure, Cond.selects RX2 yX2_measure yX2_measure, Cond.initialized RX2, Cond.code yX2_measure cX2_measure 5 none, Cond.constant RX2 34 (1000000), Cond.methodLink RX2 35 yX2_settle, Cond.instanceMethod yX2_settle, Cond.selects RX2 yX2_settle yX2_settle, Cond.code yX2_settle cX2_settle 6 none, Cond.methodLink RX2 39 yX2_lower, Cond.instanceMethod yX2_lower, Cond.selects RX2 yX2_lower yX2_lower, Cond.code yX2_lower cX2_lower 7 (some .boolean), Cond.fieldLink RX2 9 "PlateauBench$Grid" "low" "[I", Cond.fieldLink RX2 15 "PlateauBench$Grid" "high" "[I", Cond.fieldLink RX2 24 "PlateauBench$Grid" "prices" "[I", Cond.methodLink RX3 42 yX3_allTowns, Cond.instanceMethod yX3_allTowns, Cond.selects RX3 yX3_allTowns yX3_allTowns, Cond.code yX3_allTowns cX3_allTowns 1 (some .int), Cond.methodLink RX3 62 yJ6_bitCount_0f7a4]
def wsL_isUsed_r3 : List Cond := [Cond.static yJ6_bitCount_0f7a4, Cond.initialized RJ6, Cond.code yJ6_bitCount_0f7a4 cJ6_bitCount_0f7a4 1 (some .int), Cond.constant RJ6 265 (1431655765), Cond.constant RJ6 266 (858993459), Cond.constant RJ6 267 (252645135), Cond.methodLink RX3 67 yX3_joinParts, Cond.instanceMethod yX3_joinParts, Cond.selects RX3 yX3_joinParts yX3_joinParts, Cond.code yX3_joinParts cX3_joinParts 7 none, Cond.constant RX3 75 (1000000), Cond.methodLink RX3 76 Lib.Math.min.name, Cond.static Lib.Math.min.name, Cond.initialized "java/lang/Math", Cond.code Lib.Math.min.name Lib.Math.min.code 2 (some .int), Cond.methodLink RX3 71 yX2_settle, Cond.methodLink RX3 46 yX2_low, Cond.instanceMethod yX2_low, Cond.selects RX2 yX2_low yX2_low, Cond.code yX2_low cX2_low 2 (some .int), Cond.methodLink RX3 52 yX2_high, Cond.instanceMethod yX2_high, Cond.selects RX2 yX2_high yX2_high, Cond.code yX2_high cX2_high 2 (some .int)]
def wsL_isUsed_r4 : List Cond := [Cond.methodLink RX3 55 yX2_price, Cond.instanceMethod yX2_price, Cond.selects RX2 yX2_price yX2_price, Cond.code yX2_price cX2_price 2 (some .int)]
def wsL_isUsed : List Cond := .codeWith yL_isUsed cL_isUsed 4 (some .int) [(0, 16, 19, 18)] :: ((wsL_isUsed_r1 ++ (wsL_isUsed_r2 ++ (wsL_isUsed_r3 ++ wsL_isUsed_r4))) ++ wsX50 ++ wsX30 ++ wsX20 ++ (vx_atS RX5 219 "java/lang/IndexOutOfBoundsException" ["java/lang/RuntimeException", "java/lang/Exception"]).filter goodWord)
def wsL_twoWays_r1 : List Cond := [Cond.classLink RL 18 "java/lang/IndexOutOfBoundsException", Cond.classLink RL 13 "java/lang/IllegalArgumentException", Cond.methodLink RL 42 yX5_twoWays, Cond.instanceMethod yX5_twoWays, Cond.selects RX5 yX5_twoWays yX5_twoWays, Cond.initialized RX5, Cond.code yX5_twoWays cX5_twoWays 3 (some .int), Cond.classLink RX5 44 "java/lang/IllegalArgumentException", Cond.initialized "java/lang/IllegalArgumentException", Cond.fieldLink RX5 19 "PlateauBench" "ways" "LPlateauBench$TwoWays;", Cond.fieldLink RX5 10 "PlateauBench" "grid" "LPlateauBench$Grid;", Cond.methodLink RX5 77 yX5_checkNode, Cond.static yX5_checkNode, Cond.code yX5_checkNode cX5_checkNode 1 none, Cond.classLink RX5 215 "java/lang/IndexOutOfBoundsException", Cond.initialized "java/lang/IndexOutOfBoundsException", Cond.methodLink RX5 123 yX4_cheapestPair, Cond.instanceMethod yX4_cheapestPair, Cond.selects RX4 yX4_cheapestPair yX4_cheapestPair, Cond.initialized RX4, Cond.code yX4_cheapestPair cX4_cheapestPair 5 (some .int), Cond.fieldLink RX4 9 "PlateauBench$TwoWays" "row" "[I", Cond.methodLink RX4 24 yX4_cheapest, Cond.instanceMethod yX4_cheapest]
def wsL_twoWays_r2 : List Cond := [Cond.selects RX4 yX4_cheapest yX4_cheapest, Cond.code yX4_cheapest cX4_cheapest 4 (some .int), Cond.methodLink RX4 18 yX2_measure, Cond.instanceMethod yX2_measure, Cond.selects RX2 yX2_measure yX2_measure, Cond.initialized RX2, Cond.code yX2_measure cX2_measure 5 none, Cond.constant RX2 34 (1000000), Cond.methodLink RX2 35 yX2_settle, Cond.instanceMethod yX2_settle, Cond.selects RX2 yX2_settle yX2_settle, Cond.code yX2_settle cX2_settle 6 none, Cond.methodLink RX2 39 yX2_lower, Cond.instanceMethod yX2_lower, Cond.selects RX2 yX2_lower yX2_lower, Cond.code yX2_lower cX2_lower 7 (some .boolean), Cond.fieldLink RX2 9 "PlateauBench$Grid" "low" "[I", Cond.fieldLink RX2 15 "PlateauBench$Grid" "high" "[I", Cond.fieldLink RX2 24 "PlateauBench$Grid" "prices" "[I", Cond.methodLink RX4 28 yX4_takeWayBack, Cond.instanceMethod yX4_takeWayBack, Cond.selects RX4 yX4_takeWayBack yX4_takeWayBack, Cond.code yX4_takeWayBack cX4_takeWayBack 5 none, Cond.fieldLink RX4 15 "PlateauBench$TwoWays" "taken" "[I"]
def wsL_twoWays_r3 : List Cond := [Cond.methodLink RX4 35 yX4_stepBack, Cond.instanceMethod yX4_stepBack, Cond.selects RX4 yX4_stepBack yX4_stepBack, Cond.code yX4_stepBack cX4_stepBack 6 (some .int), Cond.methodLink RX4 39 yX2_beside, Cond.instanceMethod yX2_beside, Cond.selects RX2 yX2_beside yX2_beside, Cond.code yX2_beside cX2_beside 3 (some .int), Cond.fieldLink RX2 18 "PlateauBench$Grid" "beside" "[I", Cond.methodLink RX4 43 yX2_otherEnd, Cond.instanceMethod yX2_otherEnd, Cond.selects RX2 yX2_otherEnd yX2_otherEnd, Cond.code yX2_otherEnd cX2_otherEnd 3 (some .int), Cond.methodLink RX4 46 yX2_price, Cond.instanceMethod yX2_price, Cond.selects RX2 yX2_price yX2_price, Cond.code yX2_price cX2_price 2 (some .int), Cond.methodLink RX4 32 yX4_measureBesideTaken, Cond.instanceMethod yX4_measureBesideTaken, Cond.selects RX4 yX4_measureBesideTaken yX4_measureBesideTaken, Cond.code yX4_measureBesideTaken cX4_measureBesideTaken 8 none, Cond.constant RX4 50 (1000000), Cond.methodLink RX4 51 yX2_low, Cond.instanceMethod yX2_low]
def wsL_twoWays_r4 : List Cond := [Cond.selects RX2 yX2_low yX2_low, Cond.code yX2_low cX2_low 2 (some .int), Cond.methodLink RX4 54 yX2_high, Cond.instanceMethod yX2_high, Cond.selects RX2 yX2_high yX2_high, Cond.code yX2_high cX2_high 2 (some .int), Cond.methodLink RX4 57 yX4_lower, Cond.instanceMethod yX4_lower, Cond.selects RX4 yX4_lower yX4_lower, Cond.code yX4_lower cX4_lower 7 (some .boolean)]
def wsL_twoWays : List Cond := .codeWith yL_twoWays cL_twoWays 5 (some .int) [(0, 10, 13, 18), (0, 10, 17, 13)] :: ((wsL_twoWays_r1 ++ (wsL_twoWays_r2 ++ (wsL_twoWays_r3 ++ wsL_twoWays_r4))) ++ wsX50 ++ wsX40 ++ wsX20 ++ (vx_atS RX5 48 "java/lang/IllegalArgumentException" ["java/lang/RuntimeException", "java/lang/Exception"]).filter goodWord ++ (vx_atS RX5 219 "java/lang/IndexOutOfBoundsException" ["java/lang/RuntimeException", "java/lang/Exception"]).filter goodWord)
def wsL_pin : List Cond := .codeWith yL_pin cL_pin 5 (some .int) [(0, 10, 13, 18), (0, 10, 17, 13)] :: ([.classLink RL 18 "java/lang/IndexOutOfBoundsException", .classLink RL 13 "java/lang/IllegalArgumentException", .methodLink RL 45 yX5_pin, .instanceMethod yX5_pin, .selects RX5 yX5_pin yX5_pin, .initialized RX5, .code yX5_pin cX5_pin 3 (some .int), .classLink RX5 44 "java/lang/IllegalArgumentException", .initialized "java/lang/IllegalArgumentException", .fieldLink RX5 33 "PlateauBench" "films" "LPlateauBench$Films;", .methodLink RX5 77 yX5_checkNode, .static yX5_checkNode, .code yX5_checkNode cX5_checkNode 1 none, .classLink RX5 215 "java/lang/IndexOutOfBoundsException", .initialized "java/lang/IndexOutOfBoundsException", .methodLink RX5 128 yX0_change, .instanceMethod yX0_change, .selects RX0 yX0_change yX0_change, .initialized RX0, .code yX0_change cX0_change 4 (some .int), .fieldLink RX0 9 "PlateauBench$Films" "pinned" "[I"] ++ wsX50 ++ wsX00 ++ (vx_atS RX5 48 "java/lang/IllegalArgumentException" ["java/lang/RuntimeException", "java/lang/Exception"]).filter goodWord ++ (vx_atS RX5 219 "java/lang/IndexOutOfBoundsException" ["java/lang/RuntimeException", "java/lang/Exception"]).filter goodWord)
def wsL_costOf_r1 : List Cond := [Cond.classLink RL 13 "java/lang/IllegalArgumentException", Cond.methodLink RL 48 yX5_costOf, Cond.instanceMethod yX5_costOf, Cond.selects RX5 yX5_costOf yX5_costOf, Cond.initialized RX5, Cond.code yX5_costOf cX5_costOf 3 (some .int), Cond.classLink RX5 44 "java/lang/IllegalArgumentException", Cond.initialized "java/lang/IllegalArgumentException", Cond.fieldLink RX5 33 "PlateauBench" "films" "LPlateauBench$Films;", Cond.fieldLink RX5 10 "PlateauBench" "grid" "LPlateauBench$Grid;", Cond.methodLink RX5 147 yX0_isFilm, Cond.instanceMethod yX0_isFilm, Cond.selects RX0 yX0_isFilm yX0_isFilm, Cond.initialized RX0, Cond.code yX0_isFilm cX0_isFilm 4 (some .boolean), Cond.fieldLink RX0 9 "PlateauBench$Films" "pinned" "[I", Cond.methodLink RX0 24 yX0_has, Cond.static yX0_has, Cond.code yX0_has cX0_has 3 (some .boolean), Cond.methodLink RX5 135 yX0_priceOf, Cond.instanceMethod yX0_priceOf, Cond.selects RX0 yX0_priceOf yX0_priceOf, Cond.code yX0_priceOf cX0_priceOf 6 (some .int), Cond.methodLink RX0 28 yX2_low]
def wsL_costOf_r2 : List Cond := [Cond.instanceMethod yX2_low, Cond.selects RX2 yX2_low yX2_low, Cond.initialized RX2, Cond.code yX2_low cX2_low 2 (some .int), Cond.fieldLink RX2 9 "PlateauBench$Grid" "low" "[I", Cond.methodLink RX0 34 yX2_high, Cond.instanceMethod yX2_high, Cond.selects RX2 yX2_high yX2_high, Cond.code yX2_high cX2_high 2 (some .int), Cond.fieldLink RX2 15 "PlateauBench$Grid" "high" "[I", Cond.methodLink RX0 37 yX2_price, Cond.instanceMethod yX2_price, Cond.selects RX2 yX2_price yX2_price, Cond.code yX2_price cX2_price 2 (some .int), Cond.fieldLink RX2 24 "PlateauBench$Grid" "prices" "[I"]
def wsL_costOf : List Cond := .codeWith yL_costOf cL_costOf 5 (some .int) [(0, 9, 12, 13)] :: ((wsL_costOf_r1 ++ wsL_costOf_r2) ++ wsX50 ++ wsX00 ++ wsX20 ++ (vx_atS RX5 48 "java/lang/IllegalArgumentException" ["java/lang/RuntimeException", "java/lang/Exception"]).filter goodWord)
def wsL_pull_r1 : List Cond := [Cond.classLink RL 18 "java/lang/IndexOutOfBoundsException", Cond.methodLink RL 52 yX5_pull, Cond.instanceMethod yX5_pull, Cond.selects RX5 yX5_pull yX5_pull, Cond.initialized RX5, Cond.code yX5_pull cX5_pull 3 (some .int), Cond.fieldLink RX5 40 "PlateauBench" "foam" "LPlateauBench$Foam;", Cond.fieldLink RX5 10 "PlateauBench" "grid" "LPlateauBench$Grid;", Cond.methodLink RX5 77 yX5_checkNode, Cond.static yX5_checkNode, Cond.code yX5_checkNode cX5_checkNode 1 none, Cond.classLink RX5 215 "java/lang/IndexOutOfBoundsException", Cond.initialized "java/lang/IndexOutOfBoundsException", Cond.methodLink RX5 151 yX5_checkBubble, Cond.static yX5_checkBubble, Cond.code yX5_checkBubble cX5_checkBubble 1 none, Cond.methodLink RX5 154 yX1_change, Cond.instanceMethod yX1_change, Cond.selects RX1 yX1_change yX1_change, Cond.initialized RX1, Cond.code yX1_change cX1_change 6 (some .int), Cond.fieldLink RX1 9 "PlateauBench$Foam" "owners" "[I", Cond.methodLink RX1 51 yX1_energyNow, Cond.instanceMethod yX1_energyNow]
def wsL_pull_r2 : List Cond := [Cond.selects RX1 yX1_energyNow yX1_energyNow, Cond.code yX1_energyNow cX1_energyNow 2 (some .int), Cond.methodLink RX1 35 yX1_energyOf, Cond.static yX1_energyOf, Cond.code yX1_energyOf cX1_energyOf 4 (some .int), Cond.methodLink RX1 39 yX2_low, Cond.instanceMethod yX2_low, Cond.selects RX2 yX2_low yX2_low, Cond.initialized RX2, Cond.code yX2_low cX2_low 2 (some .int), Cond.fieldLink RX2 9 "PlateauBench$Grid" "low" "[I", Cond.methodLink RX1 45 yX2_high, Cond.instanceMethod yX2_high, Cond.selects RX2 yX2_high yX2_high, Cond.code yX2_high cX2_high 2 (some .int), Cond.fieldLink RX2 15 "PlateauBench$Grid" "high" "[I", Cond.methodLink RX1 48 yX2_price, Cond.instanceMethod yX2_price, Cond.selects RX2 yX2_price yX2_price, Cond.code yX2_price cX2_price 2 (some .int), Cond.fieldLink RX2 24 "PlateauBench$Grid" "prices" "[I", Cond.methodLink RX1 55 yX1_addWork, Cond.instanceMethod yX1_addWork, Cond.selects RX1 yX1_addWork yX1_addWork]
def wsL_pull_r3 : List Cond := [Cond.code yX1_addWork cX1_addWork 2 none, Cond.fieldLink RX1 28 "PlateauBench$Foam" "work" "I"]
def wsL_pull : List Cond := .codeWith yL_pull cL_pull 5 (some .int) [(0, 10, 13, 18)] :: ((wsL_pull_r1 ++ (wsL_pull_r2 ++ wsL_pull_r3)) ++ wsX50 ++ wsX10 ++ wsX20 ++ (vx_atS RX5 219 "java/lang/IndexOutOfBoundsException" ["java/lang/RuntimeException", "java/lang/Exception"]).filter goodWord)
def wsL_hold : List Cond := .codeWith yL_hold cL_hold 5 (some .int) [(0, 17, 20, 18)] :: ([.classLink RL 18 "java/lang/IndexOutOfBoundsException", .methodLink RL 55 yX5_hold, .instanceMethod yX5_hold, .selects RX5 yX5_hold yX5_hold, .initialized RX5, .code yX5_hold cX5_hold 3 (some .boolean), .fieldLink RX5 40 "PlateauBench" "foam" "LPlateauBench$Foam;", .methodLink RX5 151 yX5_checkBubble, .static yX5_checkBubble, .code yX5_checkBubble cX5_checkBubble 1 none, .classLink RX5 215 "java/lang/IndexOutOfBoundsException", .initialized "java/lang/IndexOutOfBoundsException", .methodLink RX5 156 yX1_changeHeld, .instanceMethod yX1_changeHeld, .selects RX1 yX1_changeHeld yX1_changeHeld, .initialized RX1, .code yX1_changeHeld cX1_changeHeld 4 (some .boolean), .fieldLink RX1 18 "PlateauBench$Foam" "held" "[Z"] ++ wsX50 ++ wsX10 ++ (vx_atS RX5 219 "java/lang/IndexOutOfBoundsException" ["java/lang/RuntimeException", "java/lang/Exception"]).filter goodWord)
def wsL_breathe_r1 : List Cond := [Cond.classLink RL 13 "java/lang/IllegalArgumentException", Cond.methodLink RL 59 yX5_breathe, Cond.instanceMethod yX5_breathe, Cond.selects RX5 yX5_breathe yX5_breathe, Cond.initialized RX5, Cond.code yX5_breathe cX5_breathe 2 (some .int), Cond.classLink RX5 44 "java/lang/IllegalArgumentException", Cond.initialized "java/lang/IllegalArgumentException", Cond.fieldLink RX5 40 "PlateauBench" "foam" "LPlateauBench$Foam;", Cond.fieldLink RX5 10 "PlateauBench" "grid" "LPlateauBench$Grid;", Cond.methodLink RX5 162 yX1_letBreathe, Cond.instanceMethod yX1_letBreathe, Cond.selects RX1 yX1_letBreathe yX1_letBreathe, Cond.initialized RX1, Cond.code yX1_letBreathe cX1_letBreathe 8 (some .int), Cond.fieldLink RX1 9 "PlateauBench$Foam" "owners" "[I", Cond.fieldLink RX1 32 "PlateauBench$Foam" "lost" "I", Cond.methodLink RX1 51 yX1_energyNow, Cond.instanceMethod yX1_energyNow, Cond.selects RX1 yX1_energyNow yX1_energyNow, Cond.code yX1_energyNow cX1_energyNow 2 (some .int), Cond.methodLink RX1 35 yX1_energyOf, Cond.static yX1_energyOf, Cond.code yX1_energyOf cX1_energyOf 4 (some .int)]
def wsL_breathe_r2 : List Cond := [Cond.methodLink RX1 39 yX2_low, Cond.instanceMethod yX2_low, Cond.selects RX2 yX2_low yX2_low, Cond.initialized RX2, Cond.code yX2_low cX2_low 2 (some .int), Cond.fieldLink RX2 9 "PlateauBench$Grid" "low" "[I", Cond.methodLink RX1 45 yX2_high, Cond.instanceMethod yX2_high, Cond.selects RX2 yX2_high yX2_high, Cond.code yX2_high cX2_high 2 (some .int), Cond.fieldLink RX2 15 "PlateauBench$Grid" "high" "[I", Cond.methodLink RX1 48 yX2_price, Cond.instanceMethod yX2_price, Cond.selects RX2 yX2_price yX2_price, Cond.code yX2_price cX2_price 2 (some .int), Cond.fieldLink RX2 24 "PlateauBench$Grid" "prices" "[I", Cond.methodLink RX1 59 yX1_breath, Cond.instanceMethod yX1_breath, Cond.selects RX1 yX1_breath yX1_breath, Cond.code yX1_breath cX1_breath 6 (some .int), Cond.fieldLink RX1 18 "PlateauBench$Foam" "held" "[Z", Cond.methodLink RX1 71 yX1_bestOwner, Cond.instanceMethod yX1_bestOwner, Cond.selects RX1 yX1_bestOwner yX1_bestOwner]
def wsL_breathe_r3 : List Cond := [Cond.code yX1_bestOwner cX1_bestOwner 12 (some .int), Cond.methodLink RX1 75 yX1_wallsWith, Cond.static yX1_wallsWith, Cond.code yX1_wallsWith cX1_wallsWith 7 (some .int), Cond.methodLink RX1 79 yX2_beside, Cond.instanceMethod yX2_beside, Cond.selects RX2 yX2_beside yX2_beside, Cond.code yX2_beside cX2_beside 3 (some .int), Cond.fieldLink RX2 18 "PlateauBench$Grid" "beside" "[I", Cond.methodLink RX1 83 yX2_otherEnd, Cond.instanceMethod yX2_otherEnd, Cond.selects RX2 yX2_otherEnd yX2_otherEnd, Cond.code yX2_otherEnd cX2_otherEnd 3 (some .int)]
def wsL_breathe : List Cond := .codeWith yL_breathe cL_breathe 4 (some .int) [(0, 9, 12, 13)] :: ((wsL_breathe_r1 ++ (wsL_breathe_r2 ++ wsL_breathe_r3)) ++ wsX50 ++ wsX10 ++ wsX20 ++ (vx_atS RX5 48 "java/lang/IllegalArgumentException" ["java/lang/RuntimeException", "java/lang/Exception"]).filter goodWord)
def wsL_bubbleAt : List Cond := .codeWith yL_bubbleAt cL_bubbleAt 4 (some .int) [(0, 9, 12, 18)] :: ([.classLink RL 18 "java/lang/IndexOutOfBoundsException", .methodLink RL 62 yX5_bubbleAt, .instanceMethod yX5_bubbleAt, .selects RX5 yX5_bubbleAt yX5_bubbleAt, .initialized RX5, .code yX5_bubbleAt cX5_bubbleAt 2 (some .int), .fieldLink RX5 40 "PlateauBench" "foam" "LPlateauBench$Foam;", .methodLink RX5 77 yX5_checkNode, .static yX5_checkNode, .code yX5_checkNode cX5_checkNode 1 none, .classLink RX5 215 "java/lang/IndexOutOfBoundsException", .initialized "java/lang/IndexOutOfBoundsException", .methodLink RX5 166 yX1_ownerOf, .instanceMethod yX1_ownerOf, .selects RX1 yX1_ownerOf yX1_ownerOf, .initialized RX1, .code yX1_ownerOf cX1_ownerOf 2 (some .int), .fieldLink RX1 9 "PlateauBench$Foam" "owners" "[I"] ++ wsX50 ++ wsX10 ++ (vx_atS RX5 219 "java/lang/IndexOutOfBoundsException" ["java/lang/RuntimeException", "java/lang/Exception"]).filter goodWord)
def wsL_bubble_r1 : List Cond := [Cond.classLink RL 18 "java/lang/IndexOutOfBoundsException", Cond.classLink RL 13 "java/lang/IllegalArgumentException", Cond.methodLink RL 65 yX5_bubble, Cond.instanceMethod yX5_bubble, Cond.selects RX5 yX5_bubble yX5_bubble, Cond.initialized RX5, Cond.code yX5_bubble cX5_bubble 3 (some .int), Cond.classLink RX5 44 "java/lang/IllegalArgumentException", Cond.initialized "java/lang/IllegalArgumentException", Cond.fieldLink RX5 40 "PlateauBench" "foam" "LPlateauBench$Foam;", Cond.fieldLink RX5 10 "PlateauBench" "grid" "LPlateauBench$Grid;", Cond.methodLink RX5 151 yX5_checkBubble, Cond.static yX5_checkBubble, Cond.code yX5_checkBubble cX5_checkBubble 1 none, Cond.classLink RX5 215 "java/lang/IndexOutOfBoundsException", Cond.initialized "java/lang/IndexOutOfBoundsException", Cond.methodLink RX5 169 yX1_size, Cond.instanceMethod yX1_size, Cond.selects RX1 yX1_size yX1_size, Cond.initialized RX1, Cond.code yX1_size cX1_size 4 (some .int), Cond.fieldLink RX1 9 "PlateauBench$Foam" "owners" "[I", Cond.methodLink RX5 172 yX1_pieces, Cond.instanceMethod yX1_pieces]
def wsL_bubble_r2 : List Cond := [Cond.selects RX1 yX1_pieces yX1_pieces, Cond.code yX1_pieces cX1_pieces 5 (some .int), Cond.fieldLink RX1 22 "PlateauBench$Foam" "seen" "[Z", Cond.methodLink RX1 86 yX1_seePiece, Cond.instanceMethod yX1_seePiece, Cond.selects RX1 yX1_seePiece yX1_seePiece, Cond.code yX1_seePiece cX1_seePiece 9 none, Cond.fieldLink RX1 25 "PlateauBench$Foam" "queue" "[I", Cond.methodLink RX1 79 yX2_beside, Cond.instanceMethod yX2_beside, Cond.selects RX2 yX2_beside yX2_beside, Cond.initialized RX2, Cond.code yX2_beside cX2_beside 3 (some .int), Cond.fieldLink RX2 18 "PlateauBench$Grid" "beside" "[I", Cond.methodLink RX1 83 yX2_otherEnd, Cond.instanceMethod yX2_otherEnd, Cond.selects RX2 yX2_otherEnd yX2_otherEnd, Cond.code yX2_otherEnd cX2_otherEnd 3 (some .int), Cond.fieldLink RX2 9 "PlateauBench$Grid" "low" "[I", Cond.fieldLink RX2 15 "PlateauBench$Grid" "high" "[I", Cond.methodLink RX5 175 yX1_wallsAround, Cond.instanceMethod yX1_wallsAround, Cond.selects RX1 yX1_wallsAround yX1_wallsAround, Cond.code yX1_wallsAround cX1_wallsAround 5 (some .int)]
def wsL_bubble_r3 : List Cond := [Cond.methodLink RX1 90 yX1_wallsBetween, Cond.instanceMethod yX1_wallsBetween, Cond.selects RX1 yX1_wallsBetween yX1_wallsBetween, Cond.code yX1_wallsBetween cX1_wallsBetween 6 (some .int), Cond.methodLink RX1 94 yX1_isBetween, Cond.instanceMethod yX1_isBetween, Cond.selects RX1 yX1_isBetween yX1_isBetween, Cond.code yX1_isBetween cX1_isBetween 7 (some .boolean), Cond.methodLink RX1 39 yX2_low, Cond.instanceMethod yX2_low, Cond.selects RX2 yX2_low yX2_low, Cond.code yX2_low cX2_low 2 (some .int), Cond.methodLink RX1 45 yX2_high, Cond.instanceMethod yX2_high, Cond.selects RX2 yX2_high yX2_high, Cond.code yX2_high cX2_high 2 (some .int), Cond.methodLink RX1 48 yX2_price, Cond.instanceMethod yX2_price, Cond.selects RX2 yX2_price yX2_price, Cond.code yX2_price cX2_price 2 (some .int), Cond.fieldLink RX2 24 "PlateauBench$Grid" "prices" "[I", Cond.methodLink RX5 178 yX1_neighbours, Cond.instanceMethod yX1_neighbours, Cond.selects RX1 yX1_neighbours yX1_neighbours]
def wsL_bubble_r4 : List Cond := [Cond.code yX1_neighbours cX1_neighbours 7 (some .int), Cond.methodLink RX1 98 yJ6_bitCount_0f7a4, Cond.static yJ6_bitCount_0f7a4, Cond.initialized RJ6, Cond.code yJ6_bitCount_0f7a4 cJ6_bitCount_0f7a4 1 (some .int), Cond.constant RJ6 265 (1431655765), Cond.constant RJ6 266 (858993459), Cond.constant RJ6 267 (252645135), Cond.methodLink RX5 181 yX1_isHeld, Cond.instanceMethod yX1_isHeld, Cond.selects RX1 yX1_isHeld yX1_isHeld, Cond.code yX1_isHeld cX1_isHeld 2 (some .boolean), Cond.fieldLink RX1 18 "PlateauBench$Foam" "held" "[Z"]
def wsL_bubble : List Cond := .codeWith yL_bubble cL_bubble 5 (some .int) [(0, 10, 13, 18), (0, 10, 17, 13)] :: ((wsL_bubble_r1 ++ (wsL_bubble_r2 ++ (wsL_bubble_r3 ++ wsL_bubble_r4))) ++ wsX50 ++ wsX10 ++ wsX20 ++ (vx_atS RX5 48 "java/lang/IllegalArgumentException" ["java/lang/RuntimeException", "java/lang/Exception"]).filter goodWord ++ (vx_atS RX5 219 "java/lang/IndexOutOfBoundsException" ["java/lang/RuntimeException", "java/lang/Exception"]).filter goodWord)
def wsL_wall_r1 : List Cond := [Cond.classLink RL 18 "java/lang/IndexOutOfBoundsException", Cond.methodLink RL 68 yX5_wall, Cond.instanceMethod yX5_wall, Cond.selects RX5 yX5_wall yX5_wall, Cond.initialized RX5, Cond.code yX5_wall cX5_wall 3 (some .int), Cond.fieldLink RX5 40 "PlateauBench" "foam" "LPlateauBench$Foam;", Cond.fieldLink RX5 10 "PlateauBench" "grid" "LPlateauBench$Grid;", Cond.methodLink RX5 151 yX5_checkBubble, Cond.static yX5_checkBubble, Cond.code yX5_checkBubble cX5_checkBubble 1 none, Cond.classLink RX5 215 "java/lang/IndexOutOfBoundsException", Cond.initialized "java/lang/IndexOutOfBoundsException", Cond.methodLink RX5 186 yX1_wallsBetween, Cond.instanceMethod yX1_wallsBetween, Cond.selects RX1 yX1_wallsBetween yX1_wallsBetween, Cond.initialized RX1, Cond.code yX1_wallsBetween cX1_wallsBetween 6 (some .int), Cond.methodLink RX1 94 yX1_isBetween, Cond.instanceMethod yX1_isBetween, Cond.selects RX1 yX1_isBetween yX1_isBetween, Cond.code yX1_isBetween cX1_isBetween 7 (some .boolean), Cond.fieldLink RX1 9 "PlateauBench$Foam" "owners" "[I", Cond.methodLink RX1 39 yX2_low]
def wsL_wall_r2 : List Cond := [Cond.instanceMethod yX2_low, Cond.selects RX2 yX2_low yX2_low, Cond.initialized RX2, Cond.code yX2_low cX2_low 2 (some .int), Cond.fieldLink RX2 9 "PlateauBench$Grid" "low" "[I", Cond.methodLink RX1 45 yX2_high, Cond.instanceMethod yX2_high, Cond.selects RX2 yX2_high yX2_high, Cond.code yX2_high cX2_high 2 (some .int), Cond.fieldLink RX2 15 "PlateauBench$Grid" "high" "[I", Cond.methodLink RX1 48 yX2_price, Cond.instanceMethod yX2_price, Cond.selects RX2 yX2_price yX2_price, Cond.code yX2_price cX2_price 2 (some .int), Cond.fieldLink RX2 24 "PlateauBench$Grid" "prices" "[I"]
def wsL_wall : List Cond := .codeWith yL_wall cL_wall 5 (some .int) [(0, 10, 13, 18)] :: ((wsL_wall_r1 ++ wsL_wall_r2) ++ wsX50 ++ wsX10 ++ wsX20 ++ (vx_atS RX5 219 "java/lang/IndexOutOfBoundsException" ["java/lang/RuntimeException", "java/lang/Exception"]).filter goodWord)
def wsL_corners_r1 : List Cond := [Cond.classLink RL 13 "java/lang/IllegalArgumentException", Cond.methodLink RL 71 yX5_corners, Cond.instanceMethod yX5_corners, Cond.selects RX5 yX5_corners yX5_corners, Cond.initialized RX5, Cond.code yX5_corners cX5_corners 2 (some .int), Cond.classLink RX5 44 "java/lang/IllegalArgumentException", Cond.initialized "java/lang/IllegalArgumentException", Cond.fieldLink RX5 40 "PlateauBench" "foam" "LPlateauBench$Foam;", Cond.methodLink RX5 191 yX1_cornersOf, Cond.instanceMethod yX1_cornersOf, Cond.selects RX1 yX1_cornersOf yX1_cornersOf, Cond.initialized RX1, Cond.code yX1_cornersOf cX1_cornersOf 5 (some .int), Cond.methodLink RX1 103 yX1_kindsAt, Cond.instanceMethod yX1_kindsAt, Cond.selects RX1 yX1_kindsAt yX1_kindsAt, Cond.code yX1_kindsAt cX1_kindsAt 4 (some .int), Cond.fieldLink RX1 9 "PlateauBench$Foam" "owners" "[I", Cond.methodLink RX1 98 yJ6_bitCount_0f7a4, Cond.static yJ6_bitCount_0f7a4, Cond.initialized RJ6, Cond.code yJ6_bitCount_0f7a4 cJ6_bitCount_0f7a4 1 (some .int), Cond.constant RJ6 265 (1431655765)]
def wsL_corners_r2 : List Cond := [Cond.constant RJ6 266 (858993459), Cond.constant RJ6 267 (252645135)]
def wsL_corners : List Cond := .codeWith yL_corners cL_corners 4 (some .int) [(0, 9, 12, 13)] :: ((wsL_corners_r1 ++ wsL_corners_r2) ++ wsX50 ++ wsX10 ++ (vx_atS RX5 48 "java/lang/IllegalArgumentException" ["java/lang/RuntimeException", "java/lang/Exception"]).filter goodWord)
def wsL_energy_r1 : List Cond := [Cond.classLink RL 13 "java/lang/IllegalArgumentException", Cond.methodLink RL 74 yX5_energy, Cond.instanceMethod yX5_energy, Cond.selects RX5 yX5_energy yX5_energy, Cond.initialized RX5, Cond.code yX5_energy cX5_energy 2 (some .int), Cond.classLink RX5 44 "java/lang/IllegalArgumentException", Cond.initialized "java/lang/IllegalArgumentException", Cond.fieldLink RX5 40 "PlateauBench" "foam" "LPlateauBench$Foam;", Cond.fieldLink RX5 10 "PlateauBench" "grid" "LPlateauBench$Grid;", Cond.methodLink RX5 53 yX1_energyNow, Cond.instanceMethod yX1_energyNow, Cond.selects RX1 yX1_energyNow yX1_energyNow, Cond.initialized RX1, Cond.code yX1_energyNow cX1_energyNow 2 (some .int), Cond.fieldLink RX1 9 "PlateauBench$Foam" "owners" "[I", Cond.methodLink RX1 35 yX1_energyOf, Cond.static yX1_energyOf, Cond.code yX1_energyOf cX1_energyOf 4 (some .int), Cond.methodLink RX1 39 yX2_low, Cond.instanceMethod yX2_low, Cond.selects RX2 yX2_low yX2_low, Cond.initialized RX2, Cond.code yX2_low cX2_low 2 (some .int)]
def wsL_energy_r2 : List Cond := [Cond.fieldLink RX2 9 "PlateauBench$Grid" "low" "[I", Cond.methodLink RX1 45 yX2_high, Cond.instanceMethod yX2_high, Cond.selects RX2 yX2_high yX2_high, Cond.code yX2_high cX2_high 2 (some .int), Cond.fieldLink RX2 15 "PlateauBench$Grid" "high" "[I", Cond.methodLink RX1 48 yX2_price, Cond.instanceMethod yX2_price, Cond.selects RX2 yX2_price yX2_price, Cond.code yX2_price cX2_price 2 (some .int), Cond.fieldLink RX2 24 "PlateauBench$Grid" "prices" "[I", Cond.methodLink RX5 197 yX1_energyAtRest, Cond.instanceMethod yX1_energyAtRest, Cond.selects RX1 yX1_energyAtRest yX1_energyAtRest, Cond.code yX1_energyAtRest cX1_energyAtRest 2 (some .int), Cond.fieldLink RX1 15 "PlateauBench$Foam" "ahead" "[I", Cond.methodLink RX1 68 yX1_breathsToRest, Cond.instanceMethod yX1_breathsToRest, Cond.selects RX1 yX1_breathsToRest yX1_breathsToRest, Cond.code yX1_breathsToRest cX1_breathsToRest 3 (some .int), Cond.methodLink RX1 62 arraycopyName, Cond.native arraycopyName, Cond.static arraycopyName, Cond.initialized "java/lang/System"]
def wsL_energy_r3 : List Cond := [Cond.methodLink RX1 59 yX1_breath, Cond.instanceMethod yX1_breath, Cond.selects RX1 yX1_breath yX1_breath, Cond.code yX1_breath cX1_breath 6 (some .int), Cond.fieldLink RX1 18 "PlateauBench$Foam" "held" "[Z", Cond.methodLink RX1 71 yX1_bestOwner, Cond.instanceMethod yX1_bestOwner, Cond.selects RX1 yX1_bestOwner yX1_bestOwner, Cond.code yX1_bestOwner cX1_bestOwner 12 (some .int), Cond.methodLink RX1 75 yX1_wallsWith, Cond.static yX1_wallsWith, Cond.code yX1_wallsWith cX1_wallsWith 7 (some .int), Cond.methodLink RX1 79 yX2_beside, Cond.instanceMethod yX2_beside, Cond.selects RX2 yX2_beside yX2_beside, Cond.code yX2_beside cX2_beside 3 (some .int), Cond.fieldLink RX2 18 "PlateauBench$Grid" "beside" "[I", Cond.methodLink RX1 83 yX2_otherEnd, Cond.instanceMethod yX2_otherEnd, Cond.selects RX2 yX2_otherEnd yX2_otherEnd, Cond.code yX2_otherEnd cX2_otherEnd 3 (some .int), Cond.methodLink RX5 200 yX1_workDone, Cond.instanceMethod yX1_workDone, Cond.selects RX1 yX1_workDone yX1_workDone]
def wsL_energy_r4 : List Cond := [Cond.code yX1_workDone cX1_workDone 1 (some .int), Cond.fieldLink RX1 28 "PlateauBench$Foam" "work" "I", Cond.methodLink RX5 204 yX1_energyLost, Cond.instanceMethod yX1_energyLost, Cond.selects RX1 yX1_energyLost yX1_energyLost, Cond.code yX1_energyLost cX1_energyLost 1 (some .int), Cond.fieldLink RX1 32 "PlateauBench$Foam" "lost" "I"]
def wsL_energy : List Cond := .codeWith yL_energy cL_energy 4 (some .int) [(0, 9, 12, 13)] :: ((wsL_energy_r1 ++ (wsL_energy_r2 ++ (wsL_energy_r3 ++ wsL_energy_r4))) ++ wsX50 ++ wsX10 ++ wsX20 ++ (vx_atS RX5 48 "java/lang/IllegalArgumentException" ["java/lang/RuntimeException", "java/lang/Exception"]).filter goodWord)
def wsL_law0_r1 : List Cond := [Cond.classLink RL 8 RX5, Cond.instantiable RX5 5, Cond.initialized RX5, Cond.classLink RL 78 RX6, Cond.instantiable RX6 19, Cond.initialized RX6, Cond.arrayClass .long, Cond.constantLong RL 148 (4294967295), Cond.methodLink RL 77 yX5_init, Cond.instanceMethod yX5_init, Cond.code yX5_init cX5_init 1 none, Cond.methodLink RX5 1 objectInit, Cond.instanceMethod objectInit, Cond.code objectInit ⟨#[0xb1]⟩ 1 none, Cond.classLink RX5 7 RX2, Cond.instantiable RX2 7, Cond.initialized RX2, Cond.fieldLink RX5 10 "PlateauBench" "grid" "LPlateauBench$Grid;", Cond.classLink RX5 16 RX4, Cond.instantiable RX4 2, Cond.initialized RX4, Cond.fieldLink RX5 19 "PlateauBench" "ways" "LPlateauBench$TwoWays;", Cond.classLink RX5 23 RX3, Cond.instantiable RX3 7]
def wsL_law0_r2 : List Cond := [Cond.initialized RX3, Cond.fieldLink RX5 26 "PlateauBench" "nets" "LPlateauBench$Nets;", Cond.classLink RX5 30 RX0, Cond.instantiable RX0 4, Cond.initialized RX0, Cond.fieldLink RX5 33 "PlateauBench" "films" "LPlateauBench$Films;", Cond.classLink RX5 37 RX1, Cond.instantiable RX1 7, Cond.initialized RX1, Cond.fieldLink RX5 40 "PlateauBench" "foam" "LPlateauBench$Foam;", Cond.methodLink RX5 9 yX2_init, Cond.instanceMethod yX2_init, Cond.code yX2_init cX2_init 5 none, Cond.methodLink RX2 3 objectInit, Cond.arrayClass .int, Cond.fieldLink RX2 9 "PlateauBench$Grid" "low" "[I", Cond.fieldLink RX2 15 "PlateauBench$Grid" "high" "[I", Cond.fieldLink RX2 18 "PlateauBench$Grid" "beside" "[I", Cond.fieldLink RX2 21 "PlateauBench$Grid" "laid" "[I", Cond.fieldLink RX2 24 "PlateauBench$Grid" "prices" "[I", Cond.fieldLink RX2 27 "PlateauBench$Grid" "across" "I", Cond.fieldLink RX2 31 "PlateauBench$Grid" "down" "I", Cond.instanceMethod yX4_init, Cond.code yX4_init cX4_init 1 none]
def wsL_law0_r3 : List Cond := [Cond.methodLink RX4 3 objectInit, Cond.fieldLink RX4 9 "PlateauBench$TwoWays" "row" "[I", Cond.fieldLink RX4 15 "PlateauBench$TwoWays" "taken" "[I", Cond.instanceMethod yX3_init, Cond.code yX3_init cX3_init 1 none, Cond.methodLink RX3 3 objectInit, Cond.fieldLink RX3 9 "PlateauBench$Nets" "nodes" "[I", Cond.fieldLink RX3 15 "PlateauBench$Nets" "count" "I", Cond.fieldLink RX3 19 "PlateauBench$Nets" "joined" "[I", Cond.fieldLink RX3 22 "PlateauBench$Nets" "isJoined" "Z", Cond.fieldLink RX3 26 "PlateauBench$Nets" "wayTo" "[I", Cond.fieldLink RX3 29 "PlateauBench$Nets" "row" "[I", Cond.fieldLink RX3 32 "PlateauBench$Nets" "reach" "[I", Cond.instanceMethod yX0_init, Cond.code yX0_init cX0_init 1 none, Cond.methodLink RX0 3 objectInit, Cond.fieldLink RX0 9 "PlateauBench$Films" "pinned" "[I", Cond.fieldLink RX0 15 "PlateauBench$Films" "flow" "[I", Cond.fieldLink RX0 18 "PlateauBench$Films" "cameBy" "[I", Cond.fieldLink RX0 21 "PlateauBench$Films" "queue" "[I", Cond.instanceMethod yX1_init, Cond.code yX1_init cX1_init 1 none, Cond.methodLink RX1 3 objectInit, Cond.fieldLink RX1 9 "PlateauBench$Foam" "owners" "[I"]
def wsL_law0_r4 : List Cond := [Cond.fieldLink RX1 15 "PlateauBench$Foam" "ahead" "[I", Cond.arrayClass .boolean, Cond.fieldLink RX1 18 "PlateauBench$Foam" "held" "[Z", Cond.fieldLink RX1 22 "PlateauBench$Foam" "seen" "[Z", Cond.fieldLink RX1 25 "PlateauBench$Foam" "queue" "[I", Cond.fieldLink RX1 28 "PlateauBench$Foam" "work" "I", Cond.fieldLink RX1 32 "PlateauBench$Foam" "lost" "I", Cond.methodLink RL 80 yX6_init, Cond.instanceMethod yX6_init, Cond.code yX6_init cX6_init 1 none, Cond.methodLink RX6 1 objectInit, Cond.fieldLink RX6 7 "PlateauBenchModel" "prices" "[I", Cond.fieldLink RX6 13 "PlateauBenchModel" "laid" "[I", Cond.fieldLink RX6 16 "PlateauBenchModel" "townNodes" "[I", Cond.fieldLink RX6 19 "PlateauBenchModel" "pins" "[I", Cond.fieldLink RX6 22 "PlateauBenchModel" "bubbles" "[I", Cond.fieldLink RX6 25 "PlateauBenchModel" "isHeld" "[Z", Cond.fieldLink RX6 29 "PlateauBenchModel" "far" "[I", Cond.fieldLink RX6 32 "PlateauBenchModel" "ends" "[I", Cond.fieldLink RX6 35 "PlateauBenchModel" "nets" "[I", Cond.fieldLink RX6 38 "PlateauBenchModel" "flow" "[I", Cond.fieldLink RX6 41 "PlateauBenchModel" "came" "[I", Cond.fieldLink RX6 44 "PlateauBenchModel" "isReached" "[Z", Cond.fieldLink RX6 47 "PlateauBenchModel" "kept" "[I"]
def wsL_law0_r5 : List Cond := [Cond.fieldLink RX6 50 "PlateauBenchModel" "pieces" "[I", Cond.fieldLink RX6 53 "PlateauBenchModel" "free" "I", Cond.methodLink RL 81 yL_cost, Cond.static yL_cost, Cond.initialized RL, Cond.codeWith yL_cost cL_cost 5 (some .int) [(0, 10, 13, 13)], Cond.classLink RL 13 "java/lang/IllegalArgumentException", Cond.methodLink RL 7 yX5_cost, Cond.instanceMethod yX5_cost, Cond.selects RX5 yX5_cost yX5_cost, Cond.code yX5_cost cX5_cost 5 (some .int), Cond.classLink RX5 44 "java/lang/IllegalArgumentException", Cond.initialized "java/lang/IllegalArgumentException", Cond.methodLink RX5 53 yX1_energyNow, Cond.instanceMethod yX1_energyNow, Cond.selects RX1 yX1_energyNow yX1_energyNow, Cond.code yX1_energyNow cX1_energyNow 2 (some .int), Cond.methodLink RX1 35 yX1_energyOf, Cond.static yX1_energyOf, Cond.code yX1_energyOf cX1_energyOf 4 (some .int), Cond.methodLink RX1 39 yX2_low, Cond.instanceMethod yX2_low, Cond.selects RX2 yX2_low yX2_low, Cond.code yX2_low cX2_low 2 (some .int)]
def wsL_law0_r6 : List Cond := [Cond.methodLink RX1 45 yX2_high, Cond.instanceMethod yX2_high, Cond.selects RX2 yX2_high yX2_high, Cond.code yX2_high cX2_high 2 (some .int), Cond.methodLink RX1 48 yX2_price, Cond.instanceMethod yX2_price, Cond.selects RX2 yX2_price yX2_price, Cond.code yX2_price cX2_price 2 (some .int), Cond.methodLink RX5 57 yX2_changeDirection, Cond.instanceMethod yX2_changeDirection, Cond.selects RX2 yX2_changeDirection yX2_changeDirection, Cond.code yX2_changeDirection cX2_changeDirection 5 (some .int), Cond.methodLink RX5 61 yX5_takeInNewPrices, Cond.instanceMethod yX5_takeInNewPrices, Cond.selects RX5 yX5_takeInNewPrices yX5_takeInNewPrices, Cond.code yX5_takeInNewPrices cX5_takeInNewPrices 2 none, Cond.methodLink RX5 209 yX3_forget, Cond.instanceMethod yX3_forget, Cond.selects RX3 yX3_forget yX3_forget, Cond.code yX3_forget cX3_forget 1 none, Cond.methodLink RX5 212 yX1_addWork, Cond.instanceMethod yX1_addWork, Cond.selects RX1 yX1_addWork yX1_addWork, Cond.code yX1_addWork cX1_addWork 2 none]
def wsL_law0_r7 : List Cond := [Cond.methodLink RL 86 yX6_cost, Cond.instanceMethod yX6_cost, Cond.selects RX6 yX6_cost yX6_cost, Cond.code yX6_cost cX6_cost 5 (some .int), Cond.fieldLink RX6 76 "PlateauBenchModel" "work" "I", Cond.methodLink RX6 60 yX6_in, Cond.static yX6_in, Cond.code yX6_in cX6_in 3 (some .boolean), Cond.methodLink RX6 68 yX6_refused, Cond.instanceMethod yX6_refused, Cond.selects RX6 yX6_refused yX6_refused, Cond.code yX6_refused cX6_refused 2 (some .boolean), Cond.fieldLink RX6 57 "PlateauBenchModel" "thrown" "I", Cond.methodLink RX6 72 yX6_energyNow, Cond.instanceMethod yX6_energyNow, Cond.selects RX6 yX6_energyNow yX6_energyNow, Cond.code yX6_energyNow cX6_energyNow 3 (some .int), Cond.methodLink RX6 64 yX6_first, Cond.static yX6_first, Cond.code yX6_first cX6_first 1 (some .int), Cond.methodLink RX6 86 yX6_second, Cond.static yX6_second, Cond.code yX6_second cX6_second 1 (some .int), Cond.methodLink RX6 82 yX6_costOfEdge]
def wsL_law0_r8 : List Cond := [Cond.instanceMethod yX6_costOfEdge, Cond.selects RX6 yX6_costOfEdge yX6_costOfEdge, Cond.code yX6_costOfEdge cX6_costOfEdge 2 (some .int), Cond.methodLink RL 87 yX6_thrown, Cond.instanceMethod yX6_thrown, Cond.selects RX6 yX6_thrown yX6_thrown, Cond.code yX6_thrown cX6_thrown 1 (some .int), Cond.methodLink RL 91 yL_lay, Cond.static yL_lay, Cond.codeWith yL_lay cL_lay 5 (some .int) [(0, 10, 13, 18), (0, 10, 17, 13)], Cond.classLink RL 18 "java/lang/IndexOutOfBoundsException", Cond.methodLink RL 15 yX5_lay, Cond.instanceMethod yX5_lay, Cond.selects RX5 yX5_lay yX5_lay, Cond.code yX5_lay cX5_lay 5 (some .int), Cond.methodLink RX5 65 yX5_checkEdge, Cond.static yX5_checkEdge, Cond.code yX5_checkEdge cX5_checkEdge 1 none, Cond.classLink RX5 215 "java/lang/IndexOutOfBoundsException", Cond.initialized "java/lang/IndexOutOfBoundsException", Cond.methodLink RX5 70 yX2_changeLaid, Cond.instanceMethod yX2_changeLaid, Cond.selects RX2 yX2_changeLaid yX2_changeLaid, Cond.code yX2_changeLaid cX2_changeLaid 4 (some .int)]
def wsL_law0_r9 : List Cond := [Cond.methodLink RL 93 yX6_lay, Cond.instanceMethod yX6_lay, Cond.selects RX6 yX6_lay yX6_lay, Cond.code yX6_lay cX6_lay 5 (some .int), Cond.methodLink RX6 79 yX6_isEdge, Cond.static yX6_isEdge, Cond.code yX6_isEdge cX6_isEdge 1 (some .boolean), Cond.methodLink RL 94 yL_edge, Cond.static yL_edge, Cond.codeWith yL_edge cL_edge 4 (some .int) [(0, 9, 12, 18)], Cond.methodLink RL 20 yX5_edge, Cond.instanceMethod yX5_edge, Cond.selects RX5 yX5_edge yX5_edge, Cond.code yX5_edge cX5_edge 2 (some .int), Cond.methodLink RX5 73 yX2_price, Cond.methodLink RL 97 yX6_edge, Cond.instanceMethod yX6_edge, Cond.selects RX6 yX6_edge yX6_edge, Cond.code yX6_edge cX6_edge 2 (some .int), Cond.methodLink RL 98 yL_apart, Cond.static yL_apart, Cond.codeWith yL_apart cL_apart 5 (some .int) [(0, 10, 13, 18)], Cond.methodLink RL 24 yX5_apart, Cond.instanceMethod yX5_apart]
def wsL_law0_r10 : List Cond := [Cond.selects RX5 yX5_apart yX5_apart, Cond.code yX5_apart cX5_apart 3 (some .int), Cond.methodLink RX5 77 yX5_checkNode, Cond.static yX5_checkNode, Cond.code yX5_checkNode cX5_checkNode 1 none, Cond.methodLink RX5 80 yX4_cheapest, Cond.instanceMethod yX4_cheapest, Cond.selects RX4 yX4_cheapest yX4_cheapest, Cond.code yX4_cheapest cX4_cheapest 4 (some .int), Cond.methodLink RX4 18 yX2_measure, Cond.instanceMethod yX2_measure, Cond.selects RX2 yX2_measure yX2_measure, Cond.code yX2_measure cX2_measure 5 none, Cond.constant RX2 34 (1000000), Cond.methodLink RX2 35 yX2_settle, Cond.instanceMethod yX2_settle, Cond.selects RX2 yX2_settle yX2_settle, Cond.code yX2_settle cX2_settle 6 none, Cond.methodLink RX2 39 yX2_lower, Cond.instanceMethod yX2_lower, Cond.selects RX2 yX2_lower yX2_lower, Cond.code yX2_lower cX2_lower 7 (some .boolean), Cond.methodLink RL 100 yX6_apart, Cond.instanceMethod yX6_apart]
def wsL_law0_r11 : List Cond := [Cond.selects RX6 yX6_apart yX6_apart, Cond.code yX6_apart cX6_apart 3 (some .int), Cond.methodLink RX6 93 yX6_isNode, Cond.static yX6_isNode, Cond.code yX6_isNode cX6_isNode 1 (some .boolean), Cond.methodLink RX6 96 yX6_apartFrom, Cond.instanceMethod yX6_apartFrom, Cond.selects RX6 yX6_apartFrom yX6_apartFrom, Cond.code yX6_apartFrom cX6_apartFrom 3 (some .int), Cond.methodLink RX6 89 yX6_findFar, Cond.instanceMethod yX6_findFar, Cond.selects RX6 yX6_findFar yX6_findFar, Cond.code yX6_findFar cX6_findFar 6 none, Cond.constant RX6 85 (1000000000), Cond.methodLink RL 101 yL_town, Cond.static yL_town, Cond.codeWith yL_town cL_town 4 (some .int) [(0, 9, 12, 18), (0, 9, 15, 30)], Cond.classLink RL 30 "java/lang/IllegalStateException", Cond.methodLink RL 27 yX5_town, Cond.instanceMethod yX5_town, Cond.selects RX5 yX5_town yX5_town, Cond.code yX5_town cX5_town 2 (some .int), Cond.classLink RX5 92 "java/lang/IllegalStateException", Cond.initialized "java/lang/IllegalStateException"]
def wsL_law0_r12 : List Cond := [Cond.methodLink RX5 84 yX3_hasTownAt, Cond.instanceMethod yX3_hasTownAt, Cond.selects RX3 yX3_hasTownAt yX3_hasTownAt, Cond.code yX3_hasTownAt cX3_hasTownAt 3 (some .boolean), Cond.methodLink RX5 88 yX3_isFull, Cond.instanceMethod yX3_isFull, Cond.selects RX3 yX3_isFull yX3_isFull, Cond.code yX3_isFull cX3_isFull 1 (some .boolean), Cond.methodLink RX5 97 yX3_add, Cond.instanceMethod yX3_add, Cond.selects RX3 yX3_add yX3_add, Cond.code yX3_add cX3_add 2 (some .int), Cond.methodLink RX3 35 yX3_forget, Cond.methodLink RL 103 yX6_town, Cond.instanceMethod yX6_town, Cond.selects RX6 yX6_town yX6_town, Cond.code yX6_town cX6_town 3 (some .int), Cond.fieldLink RX6 100 "PlateauBenchModel" "towns" "I", Cond.methodLink RX6 103 yX6_isTown, Cond.instanceMethod yX6_isTown, Cond.selects RX6 yX6_isTown yX6_isTown, Cond.code yX6_isTown cX6_isTown 4 (some .boolean), Cond.methodLink RL 104 yL_away, Cond.static yL_away]
def wsL_law0_r13 : List Cond := [Cond.codeWith yL_away cL_away 4 (some .int) [(0, 9, 12, 18)], Cond.methodLink RL 32 yX5_away, Cond.instanceMethod yX5_away, Cond.selects RX5 yX5_away yX5_away, Cond.code yX5_away cX5_away 2 (some .int), Cond.methodLink RX5 100 yX5_checkTown, Cond.instanceMethod yX5_checkTown, Cond.selects RX5 yX5_checkTown yX5_checkTown, Cond.code yX5_checkTown cX5_checkTown 2 none, Cond.methodLink RX5 222 yX3_size, Cond.instanceMethod yX3_size, Cond.selects RX3 yX3_size yX3_size, Cond.code yX3_size cX3_size 1 (some .int), Cond.methodLink RX5 103 yX3_remove, Cond.instanceMethod yX3_remove, Cond.selects RX3 yX3_remove yX3_remove, Cond.code yX3_remove cX3_remove 4 (some .int), Cond.methodLink RL 106 yX6_away, Cond.instanceMethod yX6_away, Cond.selects RX6 yX6_away yX6_away, Cond.code yX6_away cX6_away 4 (some .int), Cond.methodLink RL 107 yL_townAt, Cond.static yL_townAt, Cond.codeWith yL_townAt cL_townAt 4 (some .int) [(0, 9, 12, 18)]]
def wsL_law0_r14 : List Cond := [Cond.methodLink RL 35 yX5_townAt, Cond.instanceMethod yX5_townAt, Cond.selects RX5 yX5_townAt yX5_townAt, Cond.code yX5_townAt cX5_townAt 2 (some .int), Cond.methodLink RX5 106 yX3_nodeOf, Cond.instanceMethod yX3_nodeOf, Cond.selects RX3 yX3_nodeOf yX3_nodeOf, Cond.code yX3_nodeOf cX3_nodeOf 2 (some .int), Cond.methodLink RL 109 yX6_townAt, Cond.instanceMethod yX6_townAt, Cond.selects RX6 yX6_townAt yX6_townAt, Cond.code yX6_townAt cX6_townAt 2 (some .int), Cond.methodLink RL 110 yX5_least, Cond.instanceMethod yX5_least, Cond.selects RX5 yX5_least yX5_least, Cond.code yX5_least cX5_least 1 (some .int), Cond.methodLink RX5 109 yX3_cheapest, Cond.instanceMethod yX3_cheapest, Cond.selects RX3 yX3_cheapest yX3_cheapest, Cond.code yX3_cheapest cX3_cheapest 2 (some .int), Cond.methodLink RX3 38 yX3_joinAll, Cond.instanceMethod yX3_joinAll, Cond.selects RX3 yX3_joinAll yX3_joinAll, Cond.code yX3_joinAll cX3_joinAll 4 none]
def wsL_law0_r15 : List Cond := [Cond.methodLink RX3 58 yX2_measure, Cond.methodLink RX3 42 yX3_allTowns, Cond.instanceMethod yX3_allTowns, Cond.selects RX3 yX3_allTowns yX3_allTowns, Cond.code yX3_allTowns cX3_allTowns 1 (some .int), Cond.methodLink RX3 62 yJ6_bitCount_0f7a4, Cond.static yJ6_bitCount_0f7a4, Cond.initialized RJ6, Cond.code yJ6_bitCount_0f7a4 cJ6_bitCount_0f7a4 1 (some .int), Cond.constant RJ6 265 (1431655765), Cond.constant RJ6 266 (858993459), Cond.constant RJ6 267 (252645135), Cond.methodLink RX3 67 yX3_joinParts, Cond.instanceMethod yX3_joinParts, Cond.selects RX3 yX3_joinParts yX3_joinParts, Cond.code yX3_joinParts cX3_joinParts 7 none, Cond.constant RX3 75 (1000000), Cond.methodLink RX3 76 Lib.Math.min.name, Cond.static Lib.Math.min.name, Cond.initialized "java/lang/Math", Cond.code Lib.Math.min.name Lib.Math.min.code 2 (some .int), Cond.methodLink RX3 71 yX2_settle, Cond.methodLink RL 113 yX6_least, Cond.instanceMethod yX6_least]
def wsL_law0_r16 : List Cond := [Cond.selects RX6 yX6_least yX6_least, Cond.code yX6_least cX6_least 1 (some .int), Cond.methodLink RX6 112 yX6_leastNow, Cond.instanceMethod yX6_leastNow, Cond.selects RX6 yX6_leastNow yX6_leastNow, Cond.code yX6_leastNow cX6_leastNow 2 (some .int), Cond.methodLink RX6 109 yX6_leastOf, Cond.instanceMethod yX6_leastOf, Cond.selects RX6 yX6_leastOf yX6_leastOf, Cond.code yX6_leastOf cX6_leastOf 7 (some .int), Cond.methodLink RX6 106 yX6_spread, Cond.instanceMethod yX6_spread, Cond.selects RX6 yX6_spread yX6_spread, Cond.code yX6_spread cX6_spread 7 none, Cond.methodLink RL 114 yX5_leastAnew, Cond.instanceMethod yX5_leastAnew, Cond.selects RX5 yX5_leastAnew yX5_leastAnew, Cond.code yX5_leastAnew cX5_leastAnew 1 (some .int), Cond.methodLink RX5 111 yX3_cheapestOfShapes, Cond.instanceMethod yX3_cheapestOfShapes, Cond.selects RX3 yX3_cheapestOfShapes yX3_cheapestOfShapes, Cond.code yX3_cheapestOfShapes cX3_cheapestOfShapes 5 (some .int), Cond.methodLink RX3 82 yX3_measureTowns, Cond.instanceMethod yX3_measureTowns]
def wsL_law0_r17 : List Cond := [Cond.selects RX3 yX3_measureTowns yX3_measureTowns, Cond.code yX3_measureTowns cX3_measureTowns 3 none, Cond.methodLink RX3 85 yX3_hungOn, Cond.instanceMethod yX3_hungOn, Cond.selects RX3 yX3_hungOn yX3_hungOn, Cond.code yX3_hungOn cX3_hungOn 5 (some .int), Cond.methodLink RL 117 yX6_leastAnew, Cond.instanceMethod yX6_leastAnew, Cond.selects RX6 yX6_leastAnew yX6_leastAnew, Cond.code yX6_leastAnew cX6_leastAnew 1 (some .int), Cond.methodLink RL 118 yX5_bound, Cond.instanceMethod yX5_bound, Cond.selects RX5 yX5_bound yX5_bound, Cond.code yX5_bound cX5_bound 1 (some .int), Cond.methodLink RX5 114 yX3_lowerBound, Cond.instanceMethod yX3_lowerBound, Cond.selects RX3 yX3_lowerBound yX3_lowerBound, Cond.code yX3_lowerBound cX3_lowerBound 2 (some .int), Cond.methodLink RX3 100 Lib.Math.max.name, Cond.static Lib.Math.max.name, Cond.code Lib.Math.max.name Lib.Math.max.code 2 (some .int), Cond.methodLink RX3 88 yX3_cheapestPairs, Cond.instanceMethod yX3_cheapestPairs, Cond.selects RX3 yX3_cheapestPairs yX3_cheapestPairs]
def wsL_law0_r18 : List Cond := [Cond.code yX3_cheapestPairs cX3_cheapestPairs 5 (some .int), Cond.methodLink RX3 103 yX3_between, Cond.instanceMethod yX3_between, Cond.selects RX3 yX3_between yX3_between, Cond.code yX3_between cX3_between 3 (some .int), Cond.methodLink RX3 106 yX3_nearestOutside, Cond.instanceMethod yX3_nearestOutside, Cond.selects RX3 yX3_nearestOutside yX3_nearestOutside, Cond.code yX3_nearestOutside cX3_nearestOutside 3 (some .int), Cond.methodLink RX3 91 yX3_halfUp, Cond.static yX3_halfUp, Cond.code yX3_halfUp cX3_halfUp 1 (some .int), Cond.methodLink RX3 94 yX3_farthestPair, Cond.instanceMethod yX3_farthestPair, Cond.selects RX3 yX3_farthestPair yX3_farthestPair, Cond.code yX3_farthestPair cX3_farthestPair 4 (some .int), Cond.methodLink RX3 97 yX3_farthestThree, Cond.instanceMethod yX3_farthestThree, Cond.selects RX3 yX3_farthestThree yX3_farthestThree, Cond.code yX3_farthestThree cX3_farthestThree 5 (some .int), Cond.methodLink RL 121 yX6_bound, Cond.instanceMethod yX6_bound, Cond.selects RX6 yX6_bound yX6_bound, Cond.code yX6_bound cX6_bound 1 (some .int)]
def wsL_law0_r19 : List Cond := [Cond.methodLink RX6 118 yX6_boundNow, Cond.instanceMethod yX6_boundNow, Cond.selects RX6 yX6_boundNow yX6_boundNow, Cond.code yX6_boundNow cX6_boundNow 8 (some .int), Cond.methodLink RX6 115 yX6_treeOfPairs, Cond.instanceMethod yX6_treeOfPairs, Cond.selects RX6 yX6_treeOfPairs yX6_treeOfPairs, Cond.code yX6_treeOfPairs cX6_treeOfPairs 11 (some .int), Cond.methodLink RL 122 yX5_gap, Cond.instanceMethod yX5_gap, Cond.selects RX5 yX5_gap yX5_gap, Cond.code yX5_gap cX5_gap 1 (some .int), Cond.methodLink RL 125 yX6_gap, Cond.instanceMethod yX6_gap, Cond.selects RX6 yX6_gap yX6_gap, Cond.code yX6_gap cX6_gap 1 (some .int), Cond.methodLink RL 126 yL_isUsed, Cond.static yL_isUsed, Cond.codeWith yL_isUsed cL_isUsed 4 (some .int) [(0, 16, 19, 18)], Cond.methodLink RL 38 yX5_isUsed, Cond.instanceMethod yX5_isUsed, Cond.selects RX5 yX5_isUsed yX5_isUsed, Cond.code yX5_isUsed cX5_isUsed 2 (some .boolean), Cond.methodLink RX5 117 yX3_isInCheapest]
def wsL_law0_r20 : List Cond := [Cond.instanceMethod yX3_isInCheapest, Cond.selects RX3 yX3_isInCheapest yX3_isInCheapest, Cond.code yX3_isInCheapest cX3_isInCheapest 9 (some .boolean), Cond.methodLink RX3 46 yX2_low, Cond.methodLink RX3 52 yX2_high, Cond.methodLink RX3 55 yX2_price, Cond.methodLink RL 128 yX6_isUsed, Cond.instanceMethod yX6_isUsed, Cond.selects RX6 yX6_isUsed yX6_isUsed, Cond.code yX6_isUsed cX6_isUsed 4 (some .boolean), Cond.methodLink RL 129 yL_twoWays, Cond.static yL_twoWays, Cond.codeWith yL_twoWays cL_twoWays 5 (some .int) [(0, 10, 13, 18), (0, 10, 17, 13)], Cond.methodLink RL 42 yX5_twoWays, Cond.instanceMethod yX5_twoWays, Cond.selects RX5 yX5_twoWays yX5_twoWays, Cond.code yX5_twoWays cX5_twoWays 3 (some .int), Cond.methodLink RX5 123 yX4_cheapestPair, Cond.instanceMethod yX4_cheapestPair, Cond.selects RX4 yX4_cheapestPair yX4_cheapestPair, Cond.code yX4_cheapestPair cX4_cheapestPair 5 (some .int), Cond.methodLink RX4 24 yX4_cheapest, Cond.methodLink RX4 28 yX4_takeWayBack, Cond.instanceMethod yX4_takeWayBack]
def wsL_law0_r21 : List Cond := [Cond.selects RX4 yX4_takeWayBack yX4_takeWayBack, Cond.code yX4_takeWayBack cX4_takeWayBack 5 none, Cond.methodLink RX4 35 yX4_stepBack, Cond.instanceMethod yX4_stepBack, Cond.selects RX4 yX4_stepBack yX4_stepBack, Cond.code yX4_stepBack cX4_stepBack 6 (some .int), Cond.methodLink RX4 39 yX2_beside, Cond.instanceMethod yX2_beside, Cond.selects RX2 yX2_beside yX2_beside, Cond.code yX2_beside cX2_beside 3 (some .int), Cond.methodLink RX4 43 yX2_otherEnd, Cond.instanceMethod yX2_otherEnd, Cond.selects RX2 yX2_otherEnd yX2_otherEnd, Cond.code yX2_otherEnd cX2_otherEnd 3 (some .int), Cond.methodLink RX4 46 yX2_price, Cond.methodLink RX4 32 yX4_measureBesideTaken, Cond.instanceMethod yX4_measureBesideTaken, Cond.selects RX4 yX4_measureBesideTaken yX4_measureBesideTaken, Cond.code yX4_measureBesideTaken cX4_measureBesideTaken 8 none, Cond.constant RX4 50 (1000000), Cond.methodLink RX4 51 yX2_low, Cond.methodLink RX4 54 yX2_high, Cond.methodLink RX4 57 yX4_lower, Cond.instanceMethod yX4_lower]
def wsL_law0_r22 : List Cond := [Cond.selects RX4 yX4_lower yX4_lower, Cond.code yX4_lower cX4_lower 7 (some .boolean), Cond.methodLink RL 131 yX6_twoWays, Cond.instanceMethod yX6_twoWays, Cond.selects RX6 yX6_twoWays yX6_twoWays, Cond.code yX6_twoWays cX6_twoWays 4 (some .int), Cond.methodLink RX6 125 yX6_oneWay, Cond.instanceMethod yX6_oneWay, Cond.selects RX6 yX6_oneWay yX6_oneWay, Cond.code yX6_oneWay cX6_oneWay 9 (some .int), Cond.methodLink RX6 121 yX6_stepCost, Cond.instanceMethod yX6_stepCost, Cond.selects RX6 yX6_stepCost yX6_stepCost, Cond.code yX6_stepCost cX6_stepCost 3 (some .int), Cond.methodLink RL 132 yL_pin, Cond.static yL_pin, Cond.codeWith yL_pin cL_pin 5 (some .int) [(0, 10, 13, 18), (0, 10, 17, 13)], Cond.methodLink RL 45 yX5_pin, Cond.instanceMethod yX5_pin, Cond.selects RX5 yX5_pin yX5_pin, Cond.code yX5_pin cX5_pin 3 (some .int), Cond.methodLink RX5 128 yX0_change, Cond.instanceMethod yX0_change, Cond.selects RX0 yX0_change yX0_change]
def wsL_law0_r23 : List Cond := [Cond.code yX0_change cX0_change 4 (some .int), Cond.methodLink RL 134 yX6_pin, Cond.instanceMethod yX6_pin, Cond.selects RX6 yX6_pin yX6_pin, Cond.code yX6_pin cX6_pin 4 (some .int), Cond.methodLink RL 135 yX5_film, Cond.instanceMethod yX5_film, Cond.selects RX5 yX5_film yX5_film, Cond.code yX5_film cX5_film 1 (some .int), Cond.methodLink RX5 131 yX0_smallest, Cond.instanceMethod yX0_smallest, Cond.selects RX0 yX0_smallest yX0_smallest, Cond.code yX0_smallest cX0_smallest 2 (some .long), Cond.methodLink RX0 40 yX0_fillField, Cond.instanceMethod yX0_fillField, Cond.selects RX0 yX0_fillField yX0_fillField, Cond.code yX0_fillField cX0_fillField 5 none, Cond.methodLink RX0 44 yX0_search, Cond.instanceMethod yX0_search, Cond.selects RX0 yX0_search yX0_search, Cond.code yX0_search cX0_search 5 (some .int), Cond.methodLink RX0 66 yX0_searchBeside, Cond.instanceMethod yX0_searchBeside, Cond.selects RX0 yX0_searchBeside yX0_searchBeside]
def wsL_law0_r24 : List Cond := [Cond.code yX0_searchBeside cX0_searchBeside 10 (some .int), Cond.methodLink RX0 70 yX2_beside, Cond.methodLink RX0 74 yX2_otherEnd, Cond.methodLink RX0 77 yX0_leftFrom, Cond.instanceMethod yX0_leftFrom, Cond.selects RX0 yX0_leftFrom yX0_leftFrom, Cond.code yX0_leftFrom cX0_leftFrom 4 (some .int), Cond.methodLink RX0 37 yX2_price, Cond.methodLink RX0 28 yX2_low, Cond.methodLink RX0 56 yX0_nearestOutside, Cond.instanceMethod yX0_nearestOutside, Cond.selects RX0 yX0_nearestOutside yX0_nearestOutside, Cond.code yX0_nearestOutside cX0_nearestOutside 3 (some .int), Cond.methodLink RX0 59 yX0_mostAlong, Cond.instanceMethod yX0_mostAlong, Cond.selects RX0 yX0_mostAlong yX0_mostAlong, Cond.code yX0_mostAlong cX0_mostAlong 7 (some .int), Cond.constant RX0 81 (1000000), Cond.methodLink RX0 82 Lib.Math.min.name, Cond.methodLink RX0 62 yX0_push, Cond.instanceMethod yX0_push, Cond.selects RX0 yX0_push yX0_push, Cond.code yX0_push cX0_push 7 none, Cond.methodLink RX0 48 yX0_reached]
def wsL_law0_r25 : List Cond := [Cond.instanceMethod yX0_reached, Cond.selects RX0 yX0_reached yX0_reached, Cond.code yX0_reached cX0_reached 4 (some .long), Cond.methodLink RX5 135 yX0_priceOf, Cond.instanceMethod yX0_priceOf, Cond.selects RX0 yX0_priceOf yX0_priceOf, Cond.code yX0_priceOf cX0_priceOf 6 (some .int), Cond.methodLink RX0 24 yX0_has, Cond.static yX0_has, Cond.code yX0_has cX0_has 3 (some .boolean), Cond.methodLink RX0 34 yX2_high, Cond.methodLink RL 138 yX6_film, Cond.instanceMethod yX6_film, Cond.selects RX6 yX6_film yX6_film, Cond.code yX6_film cX6_film 1 (some .int), Cond.methodLink RX6 141 yX6_greatestFlow, Cond.instanceMethod yX6_greatestFlow, Cond.selects RX6 yX6_greatestFlow yX6_greatestFlow, Cond.code yX6_greatestFlow cX6_greatestFlow 3 (some .int), Cond.methodLink RX6 131 yX6_reach, Cond.instanceMethod yX6_reach, Cond.selects RX6 yX6_reach yX6_reach, Cond.code yX6_reach cX6_reach 9 none, Cond.methodLink RX6 128 yX6_rest]
def wsL_law0_r26 : List Cond := [Cond.instanceMethod yX6_rest, Cond.selects RX6 yX6_rest yX6_rest, Cond.code yX6_rest cX6_rest 3 (some .int), Cond.methodLink RX6 135 yX6_reachedOutside, Cond.instanceMethod yX6_reachedOutside, Cond.selects RX6 yX6_reachedOutside yX6_reachedOutside, Cond.code yX6_reachedOutside cX6_reachedOutside 3 (some .int), Cond.methodLink RX6 138 yX6_push, Cond.instanceMethod yX6_push, Cond.selects RX6 yX6_push yX6_push, Cond.code yX6_push cX6_push 4 none, Cond.methodLink RL 139 yX5_proof, Cond.instanceMethod yX5_proof, Cond.selects RX5 yX5_proof yX5_proof, Cond.code yX5_proof cX5_proof 1 (some .int), Cond.methodLink RX5 139 yX0_proved, Cond.instanceMethod yX0_proved, Cond.selects RX0 yX0_proved yX0_proved, Cond.code yX0_proved cX0_proved 4 (some .int), Cond.methodLink RL 142 yX6_proof, Cond.instanceMethod yX6_proof, Cond.selects RX6 yX6_proof yX6_proof, Cond.code yX6_proof cX6_proof 1 (some .int), Cond.methodLink RL 143 yX5_side]
def wsL_law0_r27 : List Cond := [Cond.instanceMethod yX5_side, Cond.selects RX5 yX5_side yX5_side, Cond.code yX5_side cX5_side 2 (some .long), Cond.methodLink RX5 142 yX0_greatest, Cond.instanceMethod yX0_greatest, Cond.selects RX0 yX0_greatest yX0_greatest, Cond.code yX0_greatest cX0_greatest 2 (some .long), Cond.constantLong RX0 52 (68719476735), Cond.constantLong RX0 54 (-1), Cond.methodLink RL 147 yX6_side, Cond.instanceMethod yX6_side, Cond.selects RX6 yX6_side yX6_side, Cond.code yX6_side cX6_side 5 (some .long), Cond.methodLink RL 150 yL_costOf, Cond.static yL_costOf, Cond.codeWith yL_costOf cL_costOf 5 (some .int) [(0, 9, 12, 13)], Cond.methodLink RL 48 yX5_costOf, Cond.instanceMethod yX5_costOf, Cond.selects RX5 yX5_costOf yX5_costOf, Cond.code yX5_costOf cX5_costOf 3 (some .int), Cond.methodLink RX5 147 yX0_isFilm, Cond.instanceMethod yX0_isFilm, Cond.selects RX0 yX0_isFilm yX0_isFilm, Cond.code yX0_isFilm cX0_isFilm 4 (some .boolean)]
def wsL_law0_r28 : List Cond := [Cond.methodLink RL 153 yX6_costOf, Cond.instanceMethod yX6_costOf, Cond.selects RX6 yX6_costOf yX6_costOf, Cond.code yX6_costOf cX6_costOf 6 (some .int), Cond.constantLong RX6 144 (68719476736), Cond.methodLink RL 154 yL_pull, Cond.static yL_pull, Cond.codeWith yL_pull cL_pull 5 (some .int) [(0, 10, 13, 18)], Cond.methodLink RL 52 yX5_pull, Cond.instanceMethod yX5_pull, Cond.selects RX5 yX5_pull yX5_pull, Cond.code yX5_pull cX5_pull 3 (some .int), Cond.methodLink RX5 151 yX5_checkBubble, Cond.static yX5_checkBubble, Cond.code yX5_checkBubble cX5_checkBubble 1 none, Cond.methodLink RX5 154 yX1_change, Cond.instanceMethod yX1_change, Cond.selects RX1 yX1_change yX1_change, Cond.code yX1_change cX1_change 6 (some .int), Cond.methodLink RX1 51 yX1_energyNow, Cond.methodLink RX1 55 yX1_addWork, Cond.methodLink RL 156 yX6_pull, Cond.instanceMethod yX6_pull, Cond.selects RX6 yX6_pull yX6_pull]
def wsL_law0_r29 : List Cond := [Cond.code yX6_pull cX6_pull 5 (some .int), Cond.methodLink RX6 146 yX6_isBubble, Cond.static yX6_isBubble, Cond.code yX6_isBubble cX6_isBubble 1 (some .boolean), Cond.methodLink RL 157 yL_hold, Cond.static yL_hold, Cond.codeWith yL_hold cL_hold 5 (some .int) [(0, 17, 20, 18)], Cond.methodLink RL 55 yX5_hold, Cond.instanceMethod yX5_hold, Cond.selects RX5 yX5_hold yX5_hold, Cond.code yX5_hold cX5_hold 3 (some .boolean), Cond.methodLink RX5 156 yX1_changeHeld, Cond.instanceMethod yX1_changeHeld, Cond.selects RX1 yX1_changeHeld yX1_changeHeld, Cond.code yX1_changeHeld cX1_changeHeld 4 (some .boolean), Cond.methodLink RL 160 yX6_hold, Cond.instanceMethod yX6_hold, Cond.selects RX6 yX6_hold yX6_hold, Cond.code yX6_hold cX6_hold 4 (some .boolean), Cond.methodLink RL 161 yL_breathe, Cond.static yL_breathe, Cond.codeWith yL_breathe cL_breathe 4 (some .int) [(0, 9, 12, 13)], Cond.methodLink RL 59 yX5_breathe, Cond.instanceMethod yX5_breathe]
def wsL_law0_r30 : List Cond := [Cond.selects RX5 yX5_breathe yX5_breathe, Cond.code yX5_breathe cX5_breathe 2 (some .int), Cond.methodLink RX5 162 yX1_letBreathe, Cond.instanceMethod yX1_letBreathe, Cond.selects RX1 yX1_letBreathe yX1_letBreathe, Cond.code yX1_letBreathe cX1_letBreathe 8 (some .int), Cond.methodLink RX1 59 yX1_breath, Cond.instanceMethod yX1_breath, Cond.selects RX1 yX1_breath yX1_breath, Cond.code yX1_breath cX1_breath 6 (some .int), Cond.methodLink RX1 71 yX1_bestOwner, Cond.instanceMethod yX1_bestOwner, Cond.selects RX1 yX1_bestOwner yX1_bestOwner, Cond.code yX1_bestOwner cX1_bestOwner 12 (some .int), Cond.methodLink RX1 75 yX1_wallsWith, Cond.static yX1_wallsWith, Cond.code yX1_wallsWith cX1_wallsWith 7 (some .int), Cond.methodLink RX1 79 yX2_beside, Cond.methodLink RX1 83 yX2_otherEnd, Cond.methodLink RL 163 yX6_breathe, Cond.instanceMethod yX6_breathe, Cond.selects RX6 yX6_breathe yX6_breathe, Cond.code yX6_breathe cX6_breathe 5 (some .int), Cond.fieldLink RX6 162 "PlateauBenchModel" "lost" "I"]
def wsL_law0_r31 : List Cond := [Cond.methodLink RX6 159 yX6_breath, Cond.instanceMethod yX6_breath, Cond.selects RX6 yX6_breath yX6_breath, Cond.code yX6_breath cX6_breath 4 (some .int), Cond.methodLink RX6 156 yX6_bestFor, Cond.instanceMethod yX6_bestFor, Cond.selects RX6 yX6_bestFor yX6_bestFor, Cond.code yX6_bestFor cX6_bestFor 8 (some .int), Cond.methodLink RX6 149 yX6_wallsOf, Cond.instanceMethod yX6_wallsOf, Cond.selects RX6 yX6_wallsOf yX6_wallsOf, Cond.code yX6_wallsOf cX6_wallsOf 6 (some .int), Cond.methodLink RX6 152 yX6_isBeside, Cond.instanceMethod yX6_isBeside, Cond.selects RX6 yX6_isBeside yX6_isBeside, Cond.code yX6_isBeside cX6_isBeside 6 (some .boolean), Cond.methodLink RL 164 yL_bubbleAt, Cond.static yL_bubbleAt, Cond.codeWith yL_bubbleAt cL_bubbleAt 4 (some .int) [(0, 9, 12, 18)], Cond.methodLink RL 62 yX5_bubbleAt, Cond.instanceMethod yX5_bubbleAt, Cond.selects RX5 yX5_bubbleAt yX5_bubbleAt, Cond.code yX5_bubbleAt cX5_bubbleAt 2 (some .int), Cond.methodLink RX5 166 yX1_ownerOf]
def wsL_law0_r32 : List Cond := [Cond.instanceMethod yX1_ownerOf, Cond.selects RX1 yX1_ownerOf yX1_ownerOf, Cond.code yX1_ownerOf cX1_ownerOf 2 (some .int), Cond.methodLink RL 166 yX6_bubbleAt, Cond.instanceMethod yX6_bubbleAt, Cond.selects RX6 yX6_bubbleAt yX6_bubbleAt, Cond.code yX6_bubbleAt cX6_bubbleAt 2 (some .int), Cond.methodLink RL 167 yL_bubble, Cond.static yL_bubble, Cond.codeWith yL_bubble cL_bubble 5 (some .int) [(0, 10, 13, 18), (0, 10, 17, 13)], Cond.methodLink RL 65 yX5_bubble, Cond.instanceMethod yX5_bubble, Cond.selects RX5 yX5_bubble yX5_bubble, Cond.code yX5_bubble cX5_bubble 3 (some .int), Cond.methodLink RX5 169 yX1_size, Cond.instanceMethod yX1_size, Cond.selects RX1 yX1_size yX1_size, Cond.code yX1_size cX1_size 4 (some .int), Cond.methodLink RX5 172 yX1_pieces, Cond.instanceMethod yX1_pieces, Cond.selects RX1 yX1_pieces yX1_pieces, Cond.code yX1_pieces cX1_pieces 5 (some .int), Cond.methodLink RX1 86 yX1_seePiece, Cond.instanceMethod yX1_seePiece]
def wsL_law0_r33 : List Cond := [Cond.selects RX1 yX1_seePiece yX1_seePiece, Cond.code yX1_seePiece cX1_seePiece 9 none, Cond.methodLink RX5 175 yX1_wallsAround, Cond.instanceMethod yX1_wallsAround, Cond.selects RX1 yX1_wallsAround yX1_wallsAround, Cond.code yX1_wallsAround cX1_wallsAround 5 (some .int), Cond.methodLink RX1 90 yX1_wallsBetween, Cond.instanceMethod yX1_wallsBetween, Cond.selects RX1 yX1_wallsBetween yX1_wallsBetween, Cond.code yX1_wallsBetween cX1_wallsBetween 6 (some .int), Cond.methodLink RX1 94 yX1_isBetween, Cond.instanceMethod yX1_isBetween, Cond.selects RX1 yX1_isBetween yX1_isBetween, Cond.code yX1_isBetween cX1_isBetween 7 (some .boolean), Cond.methodLink RX5 178 yX1_neighbours, Cond.instanceMethod yX1_neighbours, Cond.selects RX1 yX1_neighbours yX1_neighbours, Cond.code yX1_neighbours cX1_neighbours 7 (some .int), Cond.methodLink RX1 98 yJ6_bitCount_0f7a4, Cond.methodLink RX5 181 yX1_isHeld, Cond.instanceMethod yX1_isHeld, Cond.selects RX1 yX1_isHeld yX1_isHeld, Cond.code yX1_isHeld cX1_isHeld 2 (some .boolean), Cond.methodLink RL 169 yX6_bubble]
def wsL_law0_r34 : List Cond := [Cond.instanceMethod yX6_bubble, Cond.selects RX6 yX6_bubble yX6_bubble, Cond.code yX6_bubble cX6_bubble 3 (some .int), Cond.methodLink RX6 168 yX6_nodesOf, Cond.instanceMethod yX6_nodesOf, Cond.selects RX6 yX6_nodesOf yX6_nodesOf, Cond.code yX6_nodesOf cX6_nodesOf 4 (some .int), Cond.methodLink RX6 171 yX6_piecesOf, Cond.instanceMethod yX6_piecesOf, Cond.selects RX6 yX6_piecesOf yX6_piecesOf, Cond.code yX6_piecesOf cX6_piecesOf 7 (some .int), Cond.methodLink RX6 174 yX6_wallsOfBubble, Cond.instanceMethod yX6_wallsOfBubble, Cond.selects RX6 yX6_wallsOfBubble yX6_wallsOfBubble, Cond.code yX6_wallsOfBubble cX6_wallsOfBubble 6 (some .int), Cond.methodLink RX6 165 yX6_wallBetween, Cond.instanceMethod yX6_wallBetween, Cond.selects RX6 yX6_wallBetween yX6_wallBetween, Cond.code yX6_wallBetween cX6_wallBetween 7 (some .int), Cond.methodLink RL 170 yL_wall, Cond.static yL_wall, Cond.codeWith yL_wall cL_wall 5 (some .int) [(0, 10, 13, 18)], Cond.methodLink RL 68 yX5_wall, Cond.instanceMethod yX5_wall]
def wsL_law0_r35 : List Cond := [Cond.selects RX5 yX5_wall yX5_wall, Cond.code yX5_wall cX5_wall 3 (some .int), Cond.methodLink RX5 186 yX1_wallsBetween, Cond.methodLink RL 172 yX6_wall, Cond.instanceMethod yX6_wall, Cond.selects RX6 yX6_wall yX6_wall, Cond.code yX6_wall cX6_wall 3 (some .int), Cond.methodLink RL 173 yL_corners, Cond.static yL_corners, Cond.codeWith yL_corners cL_corners 4 (some .int) [(0, 9, 12, 13)], Cond.methodLink RL 71 yX5_corners, Cond.instanceMethod yX5_corners, Cond.selects RX5 yX5_corners yX5_corners, Cond.code yX5_corners cX5_corners 2 (some .int), Cond.methodLink RX5 191 yX1_cornersOf, Cond.instanceMethod yX1_cornersOf, Cond.selects RX1 yX1_cornersOf yX1_cornersOf, Cond.code yX1_cornersOf cX1_cornersOf 5 (some .int), Cond.methodLink RX1 103 yX1_kindsAt, Cond.instanceMethod yX1_kindsAt, Cond.selects RX1 yX1_kindsAt yX1_kindsAt, Cond.code yX1_kindsAt cX1_kindsAt 4 (some .int), Cond.methodLink RL 175 yX6_corners, Cond.instanceMethod yX6_corners]
def wsL_law0_r36 : List Cond := [Cond.selects RX6 yX6_corners yX6_corners, Cond.code yX6_corners cX6_corners 4 (some .int), Cond.methodLink RX6 177 yX6_kindsAt, Cond.instanceMethod yX6_kindsAt, Cond.selects RX6 yX6_kindsAt yX6_kindsAt, Cond.code yX6_kindsAt cX6_kindsAt 5 (some .int), Cond.methodLink RL 176 yX5_rests, Cond.instanceMethod yX5_rests, Cond.selects RX5 yX5_rests yX5_rests, Cond.code yX5_rests cX5_rests 1 (some .int), Cond.methodLink RX5 194 yX1_breathsToRest, Cond.instanceMethod yX1_breathsToRest, Cond.selects RX1 yX1_breathsToRest yX1_breathsToRest, Cond.code yX1_breathsToRest cX1_breathsToRest 3 (some .int), Cond.methodLink RX1 62 arraycopyName, Cond.native arraycopyName, Cond.static arraycopyName, Cond.initialized "java/lang/System", Cond.methodLink RL 179 yX6_rests, Cond.instanceMethod yX6_rests, Cond.selects RX6 yX6_rests yX6_rests, Cond.code yX6_rests cX6_rests 1 (some .int), Cond.methodLink RX6 180 yX6_resting, Cond.instanceMethod yX6_resting]
def wsL_law0_r37 : List Cond := [Cond.selects RX6 yX6_resting yX6_resting, Cond.code yX6_resting cX6_resting 5 (some .int), Cond.methodLink RL 180 yL_energy, Cond.static yL_energy, Cond.codeWith yL_energy cL_energy 4 (some .int) [(0, 9, 12, 13)], Cond.methodLink RL 74 yX5_energy, Cond.instanceMethod yX5_energy, Cond.selects RX5 yX5_energy yX5_energy, Cond.code yX5_energy cX5_energy 2 (some .int), Cond.methodLink RX5 197 yX1_energyAtRest, Cond.instanceMethod yX1_energyAtRest, Cond.selects RX1 yX1_energyAtRest yX1_energyAtRest, Cond.code yX1_energyAtRest cX1_energyAtRest 2 (some .int), Cond.methodLink RX1 68 yX1_breathsToRest, Cond.methodLink RX5 200 yX1_workDone, Cond.instanceMethod yX1_workDone, Cond.selects RX1 yX1_workDone yX1_workDone, Cond.code yX1_workDone cX1_workDone 1 (some .int), Cond.methodLink RX5 204 yX1_energyLost, Cond.instanceMethod yX1_energyLost, Cond.selects RX1 yX1_energyLost yX1_energyLost, Cond.code yX1_energyLost cX1_energyLost 1 (some .int), Cond.methodLink RL 182 yX6_energy, Cond.instanceMethod yX6_energy]
def wsL_law0_r38 : List Cond := [Cond.selects RX6 yX6_energy yX6_energy, Cond.code yX6_energy cX6_energy 2 (some .int)]
def wsL_law0 : List Cond := (wsL_law0_r1 ++ (wsL_law0_r2 ++ (wsL_law0_r3 ++ (wsL_law0_r4 ++ (wsL_law0_r5 ++ (wsL_law0_r6 ++ (wsL_law0_r7 ++ (wsL_law0_r8 ++ (wsL_law0_r9 ++ (wsL_law0_r10 ++ (wsL_law0_r11 ++ (wsL_law0_r12 ++ (wsL_law0_r13 ++ (wsL_law0_r14 ++ (wsL_law0_r15 ++ (wsL_law0_r16 ++ (wsL_law0_r17 ++ (wsL_law0_r18 ++ (wsL_law0_r19 ++ (wsL_law0_r20 ++ (wsL_law0_r21 ++ (wsL_law0_r22 ++ (wsL_law0_r23 ++ (wsL_law0_r24 ++ (wsL_law0_r25 ++ (wsL_law0_r26 ++ (wsL_law0_r27 ++ (wsL_law0_r28 ++ (wsL_law0_r29 ++ (wsL_law0_r30 ++ (wsL_law0_r31 ++ (wsL_law0_r32 ++ (wsL_law0_r33 ++ (wsL_law0_r34 ++ (wsL_law0_r35 ++ (wsL_law0_r36 ++ (wsL_law0_r37 ++ wsL_law0_r38))))))))))))))))))))))))))))))))))))) ++ wsX50 ++ wsX60 ++ wsX20 ++ wsX40 ++ wsX30 ++ wsX00 ++ wsX10 ++ ([] : List Cond)
def wsL_law : List Cond := wsL_law0 ++ (vx_atS RX5 48 "java/lang/IllegalArgumentException" ["java/lang/RuntimeException", "java/lang/Exception"]).filter goodWord ++ (vx_atS RX5 219 "java/lang/IndexOutOfBoundsException" ["java/lang/RuntimeException", "java/lang/Exception"]).filter goodWord ++ (vx_atS RX5 96 "java/lang/IllegalStateException" ["java/lang/RuntimeException", "java/lang/Exception"]).filter goodWord
abbrev vwCl : List vw_C := [(RX0, TX0, 4), (RX1, TX1, 7), (RX2, TX2, 7), (RX3, TX3, 7), (RX4, TX4, 2), (RX5, TX5, 5), (RX6, TX6, 19)]
end
section
/-! A memory over the kit's cells: arrays and int fields by number, their values as whole numbers; the machine's rows over it. -/
abbrev Mem : Type := Nat → Nat → Int
abbrev iV (z : Int) : Value := .int (Int32.ofInt z)
abbrev inR (z : Int) : Prop := -2147483648 ≤ z ∧ z < 2147483648
abbrev inB (z : Int) (n : Nat) : Prop := 0 ≤ z ∧ z < (n : Int)
def wr (M : Mem) (a i : Nat) (v : Int) : Mem := fun b j => if b = a ∧ j = i then v else M b j
def gd {α : Type} (c : Prop) [Decidable c] (x : Option α) : Option α := if c then x else none
theorem gd_some {α : Type} {c : Prop} [Decidable c] {x : Option α} {r : α} (h : gd c x = some r) : c ∧ x = some r := by
  unfold gd at h
  split at h
  · exact ⟨by assumption, h⟩
  · cases h
theorem gd_pos {α : Type} {c : Prop} [Decidable c] {x : Option α} (h : c) : gd c x = x := if_pos h
theorem ob {α β : Type} {x : Option α} {f : α → Option β} {r : β} (h : x.bind f = some r) : ∃ t, x = some t ∧ f t = some r := by
  cases x with
  | none => cases h
  | some t => exact ⟨t, rfl, h⟩
/-! whole numbers and the machine's -/
theorem zi_toInt {z : Int} (h : inR z) : (Int32.ofInt z).toInt = z := by
  exact Int32.toInt_ofInt_of_le (by omega) (by omega)
theorem zi_asI (x : Int32) : Int32.ofInt x.toInt = x := Int32.ofInt_toInt x
theorem zi_inR (x : Int32) : inR x.toInt := ⟨by have := Int32.le_toInt x; omega, by have := Int32.toInt_lt x; omega⟩
theorem zi_add (x y : Int) : Int32.ofInt x + Int32.ofInt y = Int32.ofInt (x + y) := (Int32.ofInt_add x y).symm
theorem zi_sub (x y : Int) : Int32.ofInt x - Int32.ofInt y = Int32.ofInt (x - y) := (Int32.ofInt_sub x y).symm
theorem zi_mul (x y : Int) : Int32.ofInt x * Int32.ofInt y = Int32.ofInt (x * y) := (Int32.ofInt_mul x y).symm
theorem zi_neg (x : Int) : -Int32.ofInt x = Int32.ofInt (-x) := (Int32.ofInt_neg x).symm
theorem zi_lt {x y : Int} (hx : inR x) (hy : inR y) : Int32.ofInt x < Int32.ofInt y ↔ x < y := by
  rw [Int32.lt_iff_toInt_lt, zi_toInt hx, zi_toInt hy]
theorem zi_le {x y : Int} (hx : inR x) (hy : inR y) : Int32.ofInt x ≤ Int32.ofInt y ↔ x ≤ y := by
  rw [Int32.le_iff_toInt_le, zi_toInt hx, zi_toInt hy]
theorem zi_eq {x y : Int} (hx : inR x) (hy : inR y) : Int32.ofInt x = Int32.ofInt y ↔ x = y := by
  rw [← Int32.toInt_inj, zi_toInt hx, zi_toInt hy]
theorem zi_cl {z : Int} (h0 : 0 ≤ z) (h : z < 2147483648) : (Int32.ofInt z).toNatClampNeg = z.toNat := by
  show (Int32.ofInt z).toInt.toNat = _
  rw [zi_toInt ⟨by omega, h⟩]
theorem zi_in {z : Int} {n : Nat} (h : inB z n) (hn : n < 2147483648) : vp_in (Int32.ofInt z) n := by
  rw [vp_in_iff, zi_toInt ⟨by omega, by omega⟩]
  exact h
theorem zi_div {x y : Int} (hx : 0 ≤ x ∧ x < 2147483648) (hy : 0 < y ∧ y < 2147483648) : Int32.ofInt (x / y) = Int32.ofInt x / Int32.ofInt y := by
  apply Int32.toInt_inj.mp
  have h1 : (Int32.ofInt y).toInt = y := zi_toInt ⟨by omega, hy.2⟩
  have h2 : (Int32.ofInt x).toInt = x := zi_toInt ⟨by omega, hx.2⟩
  have h3 : x / y ≤ x := Int.ediv_le_self y hx.1
  have h4 : 0 ≤ x / y := Int.ediv_nonneg hx.1 (by omega)
  rw [Int32.toInt_div_of_ne_right _ _ (fun h => by have := congrArg Int32.toInt h; rw [h1] at this; rw [this] at hy; exact absurd hy.1 (by decide)), h1, h2, Int.tdiv_eq_ediv_of_nonneg hx.1]
  exact zi_toInt ⟨by omega, by omega⟩
theorem zi_rem {x y : Int} (hx : 0 ≤ x ∧ x < 2147483648) (hy : 0 < y ∧ y < 2147483648) : Int32.ofInt (x % y) = Int32.ofInt x - Int32.ofInt x / Int32.ofInt y * Int32.ofInt y := by
  rw [← zi_div hx hy, zi_mul, zi_sub]
  congr 1
  have := Int.emod_add_mul_ediv x y
  have := Int.mul_comm y (x / y)
  omega
theorem zi_ne0 {y : Int} (hy : 0 < y ∧ y < 2147483648) : ¬ Int32.ofInt y = 0 := fun h => by
  have := (zi_eq (x := y) (y := 0) ⟨by omega, hy.2⟩ ⟨by decide, by decide⟩).mp h
  omega
def zand (x y : Int) : Int := (Int32.ofInt x &&& Int32.ofInt y).toInt
def zor (x y : Int) : Int := (Int32.ofInt x ||| Int32.ofInt y).toInt
def zxor (x y : Int) : Int := (Int32.ofInt x ^^^ Int32.ofInt y).toInt
def zshl (x y : Int) : Int := (Int32.ofInt x <<< (Int32.ofInt y &&& 31)).toInt
def zshr (x y : Int) : Int := (Int32.ofInt x >>> (Int32.ofInt y &&& 31)).toInt
def zushr (x y : Int) : Int := ((Int32.ofInt x).toUInt32 >>> ((Int32.ofInt y).toUInt32 &&& Int32.toUInt32 31)).toInt32.toInt
abbrev llshl (x : Int64) (y : Int) : Int64 := x <<< ((Int32.ofInt y).toInt64 &&& 63)
abbrev llshr (x : Int64) (y : Int) : Int64 := x >>> ((Int32.ofInt y).toInt64 &&& 63)
abbrev llushr (x : Int64) (y : Int) : Int64 := (x.toUInt64 >>> ((Int32.ofInt y).toInt64.toUInt64 &&& Int64.toUInt64 63)).toInt64
def zlcmp (x y : Int64) : Int := (lg_cmp x y).toInt
/-! the world: N cells, the first nA of them arrays (their lengths, which are of booleans), behind them objects (their kind and fields, out of the memory) -/
abbrev WD : Type := Nat × Nat × (Nat → Nat) × (Nat → Bool) × ((Nat → Nat) → Mem → Nat → Nat × List Value)
def wcell (w : WD) (cI cZ : ClassId) (ad : Nat → Nat) (M : Mem) (k : Nat) : va_E :=
  if k < w.2.1 then .inl (if w.2.2.2.1 k = true then cZ else cI, w.2.2.1 k, .inl (fun j => Int32.ofInt (M k j))) else .inr (w.2.2.2.2 ad M k)
def cellsOf (w : WD) (cI cZ : ClassId) (ad : Nat → Nat) (M : Mem) : va_W := (List.range w.1).map (fun k => (ad k, wcell w cI cZ ad M k))
def wOK (w : WD) : Prop := w.2.1 ≤ w.1 ∧ w.2.1 ≤ 100 ∧ (∀ k, w.2.2.1 k < 2147483648) ∧ ∀ ad M M' k, (∀ a j, 100 ≤ a → M a j = M' a j) → w.2.2.2.2 ad M k = w.2.2.2.2 ad M' k
theorem cells_get {w : WD} {cI cZ : ClassId} {ad : Nat → Nat} {M : Mem} {k : Nat} (hk : k < w.1) : (cellsOf w cI cZ ad M)[k]? = some (ad k, wcell w cI cZ ad M k) := by
  simp [cellsOf, hk]
theorem cells_len {w : WD} {cI cZ : ClassId} {ad : Nat → Nat} {M : Mem} : (cellsOf w cI cZ ad M).length = w.1 := by simp [cellsOf]
theorem cells_set {w : WD} {cI cZ : ClassId} {ad : Nat → Nat} {M M' : Mem} {q : Nat} {e : va_E} (hq : q < w.1) (he : wcell w cI cZ ad M' q = e) (ho : ∀ k, k < w.1 → k ≠ q → wcell w cI cZ ad M' k = wcell w cI cZ ad M k) :
    (cellsOf w cI cZ ad M).set q (ad q, e) = cellsOf w cI cZ ad M' := by
  apply List.ext_getElem?
  intro i
  rcases Nat.lt_or_ge i w.1 with hi | hi
  · rw [cells_get (M := M') hi]
    by_cases h : i = q
    · subst h
      rw [List.getElem?_set_self (by rw [cells_len]; exact hi), he]
    · rw [List.getElem?_set_ne (Ne.symm h), cells_get hi, ho i hi h]
  · rw [List.getElem?_eq_none (by rw [List.length_set, cells_len]; exact hi), List.getElem?_eq_none (by rw [cells_len]; exact hi)]
theorem cells_ad {w : WD} {cI cZ : ClassId} {ad : Nat → Nat} {M : Mem} {k : Nat} {q : Nat × va_E} (h : (cellsOf w cI cZ ad M)[k]? = some q) : k < w.1 ∧ q.1 = ad k := by
  have hk : k < w.1 := by
    have := (List.getElem?_eq_some_iff.mp h).1
    rwa [cells_len] at this
  rw [cells_get hk] at h
  cases h
  exact ⟨hk, rfl⟩
def adOK (w : WD) (ad : Nat → Nat) (A : Nat → Prop) : Prop := (∀ i j, i < w.1 → j < w.1 → ad i = ad j → i = j) ∧ ∀ k, k < w.1 → A (ad k)
theorem adOK.D {w : WD} {cI cZ : ClassId} {ad : Nat → Nat} {A : Nat → Prop} (h : adOK w ad A) (M : Mem) : va_D A (cellsOf w cI cZ ad M) := by
  refine ⟨fun i j p q hi hj e => ?_, fun k q hk => ?_⟩
  · obtain ⟨h1, e1⟩ := cells_ad hi
    obtain ⟨h2, e2⟩ := cells_ad hj
    exact h.1 i j h1 h2 (by rw [← e1, ← e2]; exact e)
  · obtain ⟨h1, e1⟩ := cells_ad hk
    rw [e1]
    exact h.2 k h1
theorem adOK.of {w : WD} {cI cZ : ClassId} {ad : Nat → Nat} {A : Nat → Prop} {M : Mem} (h : va_D A (cellsOf w cI cZ ad M)) : adOK w ad A :=
  ⟨fun i j hi hj e => h.1 i j _ _ (cells_get hi) (cells_get hj) e, fun k hk => h.2 k _ (cells_get hk)⟩
/-- which cells a method may change -/
def fA (w : WD) (ad : Nat → Nat) (sz : Nat) : Nat → Prop := fun q => (∃ k, k < w.1 ∧ q = ad k) ∨ sz ≤ q
theorem wcell_arr {w : WD} {cI cZ : ClassId} {ad : Nat → Nat} {M : Mem} {k : Nat} (hk : k < w.2.1) : wcell w cI cZ ad M k = .inl (if w.2.2.2.1 k = true then cZ else cI, w.2.2.1 k, .inl (fun j => Int32.ofInt (M k j))) := if_pos hk
theorem wcell_obj {w : WD} {cI cZ : ClassId} {ad : Nat → Nat} {M : Mem} {k : Nat} (hk : w.2.1 ≤ k) : wcell w cI cZ ad M k = .inr (w.2.2.2.2 ad M k) := if_neg (Nat.not_lt.mpr hk)
theorem wr_at (M : Mem) (a i : Nat) (v : Int) : wr M a i v a i = v := by simp [wr]
theorem wr_row (M : Mem) {a b i : Nat} (v : Int) (h : b ≠ a) : wr M a i v b = M b := by funext j; simp [wr, h]
theorem wr_upd (M : Mem) (a i : Nat) (v : Int) : (fun j => Int32.ofInt (wr M a i v a j)) = upd (fun j => Int32.ofInt (M a j)) i (Int32.ofInt v) := by
  funext j
  simp only [wr, upd, true_and]
  split <;> rfl
/-- where a store into an array leaves the world -/
theorem cells_store {w : WD} (hw : wOK w) {cI cZ : ClassId} {ad : Nat → Nat} {M : Mem} {a i : Nat} (ha : a < w.2.1) (v : Int) {cA : ClassId} (hcA : cA = if w.2.2.2.1 a = true then cZ else cI) :
    (cellsOf w cI cZ ad M).set a (ad a, .inl (cA, w.2.2.1 a, .inl (upd (fun j => Int32.ofInt (M a j)) i (Int32.ofInt v)))) = cellsOf w cI cZ ad (wr M a i v) := by
  subst hcA
  refine cells_set (Nat.lt_of_lt_of_le ha hw.1) ?_ ?_
  · rw [wcell_arr ha, wr_upd]
  · intro k _ hne
    rcases Nat.lt_or_ge k w.2.1 with h | h
    · rw [wcell_arr h, wcell_arr h, wr_row M v hne]
    · rw [wcell_obj h, wcell_obj h]
      refine congrArg _ (hw.2.2.2 ad _ _ k fun b j hb => ?_)
      have : b ≠ a := by have := hw.2.1; omega
      simp [wr, this]
/-! the judgement: the world holds M, the frame is at pc with these locals and this stack: it comes to the end that is owed -/
def retOK (cc : ByteArray) (pc : Nat) (rt : Option FieldType) (v : Option Value) : Prop :=
  (decode cc pc = .ok (.ireturn, 1) ∧ ∃ (ty : FieldType) (x : Int32), rt = some ty ∧ v = some (.int x) ∧ narrow ty (.int x) = .int x) ∨
  (decode cc pc = .ok (.return_, 1) ∧ v = none ∧ rt = none) ∨
  (decode cc pc = .ok (.lreturn, 1) ∧ ∃ x : Int64, v = some (.long x) ∧ rt = some .long)
def Cx (w : WD) (ad : Nat → Nat) (own : String) (cc : ByteArray) (nL : Nat) (Ts : List Cond) (R : Room) (l : Launch) (rt : Option FieldType) (Post : Option Value → Mem → Prop) (G : Mem → Nat → List (Nat × Value) → List Value → Prop) : Prop :=
  ∃ (p : Program) (e : Env) (s : State) (m : MethodId) (args : Array Value) (below : List Frame) (meth : Method) (c : Code) (D : va_G) (cI cZ : ClassId) (A : Nat → Prop) (Q : State → Prop),
    p.tables.exec = Jvm.exec ∧ c.code = cc ∧ c.maxLocals = nL ∧ s.vm.findClass own = some m.cls ∧ (∀ w ∈ Ts, w.before args s = true) ∧ va_K D vwCl [(cI, .int), (cZ, .boolean)] s ∧ adOK w ad A ∧ (∀ q, s.heap.size ≤ q → A q) ∧ wOK w ∧
    (∀ (M : Mem) (v : Option Value) (H : Heap) (locs : List Loc) (ls : Array Slot) (pc : Nat), va_P D vwCl (cellsOf w cI cZ ad M) H → va_S A s.heap H locs → Post v M → retOK cc pc rt v → W p l e R s m args below meth c H locs 0 0 Q (F0 m pc ls v.toList)) ∧
    G = fun M pc lv st => ∀ (H : Heap) (locs : List Loc) (ls : Array Slot), va_P D vwCl (cellsOf w cI cZ ad M) H → va_S A s.heap H locs → lv_has ls nL lv → W p l e R s m args below meth c H locs 0 0 Q (F0 m pc ls st)
section ROWS
variable {w : WD} {ad : Nat → Nat} {own : String} {cc : ByteArray} {nL : Nat} {Ts : List Cond} {R : Room} {l : Launch} {rt : Option FieldType} {Post : Option Value → Mem → Prop} {G : Mem → Nat → List (Nat × Value) → List Value → Prop}
variable {M : Mem} {pc : Nat} {lv : List (Nat × Value)} {st : List Value}
theorem ax_iconst (cx : Cx w ad own cc nL Ts R l rt Post G) {n : Int} (d : decode cc pc = .ok (.iconst n, 1)) (k : G M (pc + 1) lv (iV n :: st)) : G M pc lv st := by
  obtain ⟨p, e, s, m, args, below, meth, c, D, cI, cZ, A, Q, hx, hb, hml, hown, hts, hK, hA, hsz, hw, hend, rfl⟩ := cx
  exact fun H locs ls hP hS hl => lv_iconst hx hb d rfl (k H locs ls hP hS hl)
theorem ax_bipush (cx : Cx w ad own cc nL Ts R l rt Post G) {n z : Int} (d : decode cc pc = .ok (.bipush n, 2)) (hz : (Int8.ofInt n).toInt32 = Int32.ofInt z) (k : G M (pc + 2) lv (iV z :: st)) : G M pc lv st := by
  obtain ⟨p, e, s, m, args, below, meth, c, D, cI, cZ, A, Q, hx, hb, hml, hown, hts, hK, hA, hsz, hw, hend, rfl⟩ := cx
  exact fun H locs ls hP hS hl => lv_bipush hx hb d hz (k H locs ls hP hS hl)
theorem ax_sipush (cx : Cx w ad own cc nL Ts R l rt Post G) {n z : Int} (d : decode cc pc = .ok (.sipush n, 3)) (hz : (Int16.ofInt n).toInt32 = Int32.ofInt z) (k : G M (pc + 3) lv (iV z :: st)) : G M pc lv st := by
  obtain ⟨p, e, s, m, args, below, meth, c, D, cI, cZ, A, Q, hx, hb, hml, hown, hts, hK, hA, hsz, hw, hend, rfl⟩ := cx
  exact fun H locs ls hP hS hl => lv_sipush hx hb d hz (k H locs ls hP hS hl)
theorem ax_ldc (cx : Cx w ad own cc nL Ts R l rt Post G) {i : Nat} {v : Int32} {z : Int} (d : decode cc pc = .ok (.ldc i, 2)) (hc : Cond.constant own i v ∈ Ts) (hz : v = Int32.ofInt z) (k : G M (pc + 2) lv (iV z :: st)) : G M pc lv st := by
  obtain ⟨p, e, s, m, args, below, meth, c, D, cI, cZ, A, Q, hx, hb, hml, hown, hts, hK, hA, hsz, hw, hend, rfl⟩ := cx
  subst hz
  exact fun H locs ls hP hS hl => lv_ldc hx hb hown (hts _ hc) d (k H locs ls hP hS hl)
theorem ax_iload_n (cx : Cx w ad own cc nL Ts R l rt Post G) {q : Fin 4} {i : Nat} {x : Int} (j : Nat) (d : decode cc pc = .ok (.iload_n q, 1)) (hi : (q : Nat) = i) (hj : lv[j]? = some (i, iV x)) (k : G M (pc + 1) lv (iV x :: st)) : G M pc lv st := by
  obtain ⟨p, e, s, m, args, below, meth, c, D, cI, cZ, A, Q, hx, hb, hml, hown, hts, hK, hA, hsz, hw, hend, rfl⟩ := cx
  exact fun H locs ls hP hS hl => lv_iload_n hx hb d hi (lv_at hl j hj) (k H locs ls hP hS hl)
theorem ax_iload (cx : Cx w ad own cc nL Ts R l rt Post G) {i : Nat} {x : Int} (j : Nat) (d : decode cc pc = .ok (.iload i, 2)) (hj : lv[j]? = some (i, iV x)) (k : G M (pc + 2) lv (iV x :: st)) : G M pc lv st := by
  obtain ⟨p, e, s, m, args, below, meth, c, D, cI, cZ, A, Q, hx, hb, hml, hown, hts, hK, hA, hsz, hw, hend, rfl⟩ := cx
  exact fun H locs ls hP hS hl => lv_iload hx hb d (lv_at hl j hj) (k H locs ls hP hS hl)
theorem ax_aload_n (cx : Cx w ad own cc nL Ts R l rt Post G) {q : Fin 4} {i x : Nat} (j : Nat) (d : decode cc pc = .ok (.aload_n q, 1)) (hi : (q : Nat) = i) (hj : lv[j]? = some (i, .ref x)) (k : G M (pc + 1) lv (.ref x :: st)) : G M pc lv st := by
  obtain ⟨p, e, s, m, args, below, meth, c, D, cI, cZ, A, Q, hx, hb, hml, hown, hts, hK, hA, hsz, hw, hend, rfl⟩ := cx
  exact fun H locs ls hP hS hl => lv_aload_n hx hb d hi (lv_at hl j hj) (k H locs ls hP hS hl)
theorem ax_aload (cx : Cx w ad own cc nL Ts R l rt Post G) {i x : Nat} (j : Nat) (d : decode cc pc = .ok (.aload i, 2)) (hj : lv[j]? = some (i, .ref x)) (k : G M (pc + 2) lv (.ref x :: st)) : G M pc lv st := by
  obtain ⟨p, e, s, m, args, below, meth, c, D, cI, cZ, A, Q, hx, hb, hml, hown, hts, hK, hA, hsz, hw, hend, rfl⟩ := cx
  exact fun H locs ls hP hS hl => lv_aload hx hb d (lv_at hl j hj) (k H locs ls hP hS hl)
theorem ax_lload_n (cx : Cx w ad own cc nL Ts R l rt Post G) {q : Fin 4} {i : Nat} {x : Int64} (j : Nat) (d : decode cc pc = .ok (.lload_n q, 1)) (hi : (q : Nat) = i) (hj : lv[j]? = some (i, .long x)) (k : G M (pc + 1) lv (.long x :: st)) : G M pc lv st := by
  obtain ⟨p, e, s, m, args, below, meth, c, D, cI, cZ, A, Q, hx, hb, hml, hown, hts, hK, hA, hsz, hw, hend, rfl⟩ := cx
  exact fun H locs ls hP hS hl => lv_lload_n hx hb d hi (lv_at hl j hj) (k H locs ls hP hS hl)
theorem ax_istore_n (cx : Cx w ad own cc nL Ts R l rt Post G) {q : Fin 4} {i : Nat} {x : Int} {lv' : List (Nat × Value)} (d : decode cc pc = .ok (.istore_n q, 1)) (hi : (q : Nat) = i) (hn : i < nL) (hl' : (i, iV x) :: lv.filter (fun q => !(q.1 == i) && !(q.1 + 1 == i && q.2.category == 2)) = lv') (k : G M (pc + 1) lv' st) : G M pc lv (iV x :: st) := by
  obtain ⟨p, e, s, m, args, below, meth, c, D, cI, cZ, A, Q, hx, hb, hml, hown, hts, hK, hA, hsz, hw, hend, rfl⟩ := cx
  exact fun H locs ls hP hS hl => lv_istore_n hx hb d hi hl hn hl' (fun ls' h' => k H locs ls' hP hS h')
theorem ax_istore (cx : Cx w ad own cc nL Ts R l rt Post G) {i : Nat} {x : Int} {lv' : List (Nat × Value)} (d : decode cc pc = .ok (.istore i, 2)) (hn : i < nL) (hl' : (i, iV x) :: lv.filter (fun q => !(q.1 == i) && !(q.1 + 1 == i && q.2.category == 2)) = lv') (k : G M (pc + 2) lv' st) : G M pc lv (iV x :: st) := by
  obtain ⟨p, e, s, m, args, below, meth, c, D, cI, cZ, A, Q, hx, hb, hml, hown, hts, hK, hA, hsz, hw, hend, rfl⟩ := cx
  exact fun H locs ls hP hS hl => lv_istore hx hb d hl hn hl' (fun ls' h' => k H locs ls' hP hS h')
theorem ax_lstore_n (cx : Cx w ad own cc nL Ts R l rt Post G) {q : Fin 4} {i : Nat} {x : Int64} {lv' : List (Nat × Value)} (d : decode cc pc = .ok (.lstore_n q, 1)) (hi : (q : Nat) = i) (hn : i + 1 < nL) (hl' : (i, Value.long x) :: lv.filter (fun q => !(q.1 == i) && (!(q.1 == i + 1) && !(q.1 + 1 == i && q.2.category == 2))) = lv') (k : G M (pc + 1) lv' st) : G M pc lv (.long x :: st) := by
  obtain ⟨p, e, s, m, args, below, meth, c, D, cI, cZ, A, Q, hx, hb, hml, hown, hts, hK, hA, hsz, hw, hend, rfl⟩ := cx
  exact fun H locs ls hP hS hl => lv_lstore_n hx hb d hi hl hn hl' (fun ls' h' => k H locs ls' hP hS h')
theorem ax_iinc (cx : Cx w ad own cc nL Ts R l rt Post G) {i : Nat} {n x : Int} {lv' : List (Nat × Value)} (j : Nat) (d : decode cc pc = .ok (.iinc i n, 3)) (hj : lv[j]? = some (i, iV x)) (hn : i < nL) (hl' : (i, iV (x + n)) :: lv.filter (fun q => !(q.1 == i) && !(q.1 + 1 == i && q.2.category == 2)) = lv') (k : G M (pc + 3) lv' st) : G M pc lv st := by
  obtain ⟨p, e, s, m, args, below, meth, c, D, cI, cZ, A, Q, hx, hb, hml, hown, hts, hK, hA, hsz, hw, hend, rfl⟩ := cx
  exact fun H locs ls hP hS hl => lv_iinc hx hb d hl hj (zi_add x n) hn hl' (fun ls' h' => k H locs ls' hP hS h')
theorem ax_iadd (cx : Cx w ad own cc nL Ts R l rt Post G) {x y : Int} (d : decode cc pc = .ok (.iadd, 1)) (k : G M (pc + 1) lv (iV (x + y) :: st)) : G M pc lv (iV y :: iV x :: st) := by
  obtain ⟨p, e, s, m, args, below, meth, c, D, cI, cZ, A, Q, hx, hb, hml, hown, hts, hK, hA, hsz, hw, hend, rfl⟩ := cx
  intro H locs ls hP hS hl
  have k := k H locs ls hP hS hl
  rw [show iV (x + y) = .int (Int32.ofInt x + Int32.ofInt y) from by rw [zi_add]] at k
  exact lv_iadd hx hb d k
theorem ax_isub (cx : Cx w ad own cc nL Ts R l rt Post G) {x y : Int} (d : decode cc pc = .ok (.isub, 1)) (k : G M (pc + 1) lv (iV (x - y) :: st)) : G M pc lv (iV y :: iV x :: st) := by
  obtain ⟨p, e, s, m, args, below, meth, c, D, cI, cZ, A, Q, hx, hb, hml, hown, hts, hK, hA, hsz, hw, hend, rfl⟩ := cx
  intro H locs ls hP hS hl
  have k := k H locs ls hP hS hl
  rw [show iV (x - y) = .int (Int32.ofInt x - Int32.ofInt y) from by rw [zi_sub]] at k
  exact lv_isub hx hb d k
theorem ax_imul (cx : Cx w ad own cc nL Ts R l rt Post G) {x y : Int} (d : decode cc pc = .ok (.imul, 1)) (k : G M (pc + 1) lv (iV (x * y) :: st)) : G M pc lv (iV y :: iV x :: st) := by
  obtain ⟨p, e, s, m, args, below, meth, c, D, cI, cZ, A, Q, hx, hb, hml, hown, hts, hK, hA, hsz, hw, hend, rfl⟩ := cx
  intro H locs ls hP hS hl
  have k := k H locs ls hP hS hl
  rw [show iV (x * y) = .int (Int32.ofInt x * Int32.ofInt y) from by rw [zi_mul]] at k
  exact lv_imul hx hb d k
theorem ax_ineg (cx : Cx w ad own cc nL Ts R l rt Post G) {x : Int} (d : decode cc pc = .ok (.ineg, 1)) (k : G M (pc + 1) lv (iV (-x) :: st)) : G M pc lv (iV x :: st) := by
  obtain ⟨p, e, s, m, args, below, meth, c, D, cI, cZ, A, Q, hx, hb, hml, hown, hts, hK, hA, hsz, hw, hend, rfl⟩ := cx
  intro H locs ls hP hS hl
  have k := k H locs ls hP hS hl
  rw [show iV (-x) = .int (-Int32.ofInt x) from by rw [zi_neg]] at k
  exact lv_ineg hx hb d k
theorem ax_iand (cx : Cx w ad own cc nL Ts R l rt Post G) {x y : Int} (d : decode cc pc = .ok (.iand, 1)) (k : G M (pc + 1) lv (iV (zand x y) :: st)) : G M pc lv (iV y :: iV x :: st) := by
  obtain ⟨p, e, s, m, args, below, meth, c, D, cI, cZ, A, Q, hx, hb, hml, hown, hts, hK, hA, hsz, hw, hend, rfl⟩ := cx
  intro H locs ls hP hS hl
  have k := k H locs ls hP hS hl
  rw [show iV (zand x y) = .int (Int32.ofInt x &&& Int32.ofInt y) from by rw [iV, zand, zi_asI]] at k
  exact lv_iand hx hb d k
theorem ax_ior (cx : Cx w ad own cc nL Ts R l rt Post G) {x y : Int} (d : decode cc pc = .ok (.ior, 1)) (k : G M (pc + 1) lv (iV (zor x y) :: st)) : G M pc lv (iV y :: iV x :: st) := by
  obtain ⟨p, e, s, m, args, below, meth, c, D, cI, cZ, A, Q, hx, hb, hml, hown, hts, hK, hA, hsz, hw, hend, rfl⟩ := cx
  intro H locs ls hP hS hl
  have k := k H locs ls hP hS hl
  rw [show iV (zor x y) = .int (Int32.ofInt x ||| Int32.ofInt y) from by rw [iV, zor, zi_asI]] at k
  exact lv_ior hx hb d k
theorem ax_ixor (cx : Cx w ad own cc nL Ts R l rt Post G) {x y : Int} (d : decode cc pc = .ok (.ixor, 1)) (k : G M (pc + 1) lv (iV (zxor x y) :: st)) : G M pc lv (iV y :: iV x :: st) := by
  obtain ⟨p, e, s, m, args, below, meth, c, D, cI, cZ, A, Q, hx, hb, hml, hown, hts, hK, hA, hsz, hw, hend, rfl⟩ := cx
  intro H locs ls hP hS hl
  have k := k H locs ls hP hS hl
  rw [show iV (zxor x y) = .int (Int32.ofInt x ^^^ Int32.ofInt y) from by rw [iV, zxor, zi_asI]] at k
  exact lv_ixor hx hb d k
theorem ax_ishl (cx : Cx w ad own cc nL Ts R l rt Post G) {x y : Int} (d : decode cc pc = .ok (.ishl, 1)) (k : G M (pc + 1) lv (iV (zshl x y) :: st)) : G M pc lv (iV y :: iV x :: st) := by
  obtain ⟨p, e, s, m, args, below, meth, c, D, cI, cZ, A, Q, hx, hb, hml, hown, hts, hK, hA, hsz, hw, hend, rfl⟩ := cx
  intro H locs ls hP hS hl
  have k := k H locs ls hP hS hl
  rw [show iV (zshl x y) = .int (Int32.ofInt x <<< (Int32.ofInt y &&& 31)) from by rw [iV, zshl, zi_asI]] at k
  exact lv_ishl hx hb d k
theorem ax_ishr (cx : Cx w ad own cc nL Ts R l rt Post G) {x y : Int} (d : decode cc pc = .ok (.ishr, 1)) (k : G M (pc + 1) lv (iV (zshr x y) :: st)) : G M pc lv (iV y :: iV x :: st) := by
  obtain ⟨p, e, s, m, args, below, meth, c, D, cI, cZ, A, Q, hx, hb, hml, hown, hts, hK, hA, hsz, hw, hend, rfl⟩ := cx
  intro H locs ls hP hS hl
  have k := k H locs ls hP hS hl
  rw [show iV (zshr x y) = .int (Int32.ofInt x >>> (Int32.ofInt y &&& 31)) from by rw [iV, zshr, zi_asI]] at k
  exact lv_ishr hx hb d k
theorem ax_iushr (cx : Cx w ad own cc nL Ts R l rt Post G) {x y : Int} (d : decode cc pc = .ok (.iushr, 1)) (k : G M (pc + 1) lv (iV (zushr x y) :: st)) : G M pc lv (iV y :: iV x :: st) := by
  obtain ⟨p, e, s, m, args, below, meth, c, D, cI, cZ, A, Q, hx, hb, hml, hown, hts, hK, hA, hsz, hw, hend, rfl⟩ := cx
  intro H locs ls hP hS hl
  exact lv_iushr hx hb d (by rw [zushr, zi_asI]) (k H locs ls hP hS hl)
theorem ax_idiv (cx : Cx w ad own cc nL Ts R l rt Post G) {x y : Int} (d : decode cc pc = .ok (.idiv, 1)) (g : (0 ≤ x ∧ x < 2147483648) ∧ 0 < y ∧ y < 2147483648) (k : G M (pc + 1) lv (iV (x / y) :: st)) : G M pc lv (iV y :: iV x :: st) := by
  obtain ⟨p, e, s, m, args, below, meth, c, D, cI, cZ, A, Q, hx, hb, hml, hown, hts, hK, hA, hsz, hw, hend, rfl⟩ := cx
  intro H locs ls hP hS hl
  have k := k H locs ls hP hS hl
  rw [show iV (x / y) = .int (Int32.ofInt x / Int32.ofInt y) from by rw [iV, zi_div g.1 g.2]] at k
  exact lv_idiv hx hb d (zi_ne0 g.2) k
theorem ax_irem (cx : Cx w ad own cc nL Ts R l rt Post G) {x y : Int} (d : decode cc pc = .ok (.irem, 1)) (g : (0 ≤ x ∧ x < 2147483648) ∧ 0 < y ∧ y < 2147483648) (k : G M (pc + 1) lv (iV (x % y) :: st)) : G M pc lv (iV y :: iV x :: st) := by
  obtain ⟨p, e, s, m, args, below, meth, c, D, cI, cZ, A, Q, hx, hb, hml, hown, hts, hK, hA, hsz, hw, hend, rfl⟩ := cx
  intro H locs ls hP hS hl
  have k := k H locs ls hP hS hl
  rw [show iV (x % y) = .int (Int32.ofInt x - Int32.ofInt x / Int32.ofInt y * Int32.ofInt y) from by rw [iV, zi_rem g.1 g.2]] at k
  exact lv_irem hx hb d (zi_ne0 g.2) k
/-! longs -/
theorem ax_i2l (cx : Cx w ad own cc nL Ts R l rt Post G) {x : Int} (d : decode cc pc = .ok (.i2l, 1)) (k : G M (pc + 1) lv (.long (Int32.ofInt x).toInt64 :: st)) : G M pc lv (iV x :: st) := by
  obtain ⟨p, e, s, m, args, below, meth, c, D, cI, cZ, A, Q, hx, hb, hml, hown, hts, hK, hA, hsz, hw, hend, rfl⟩ := cx
  exact fun H locs ls hP hS hl => lv_i2l hx hb d rfl (k H locs ls hP hS hl)
theorem ax_lconst (cx : Cx w ad own cc nL Ts R l rt Post G) {n : Fin 2} {v : Int64} (d : decode cc pc = .ok (.lconst n, 1)) (hv : Int64.ofNat (n : Nat) = v) (k : G M (pc + 1) lv (.long v :: st)) : G M pc lv st := by
  obtain ⟨p, e, s, m, args, below, meth, c, D, cI, cZ, A, Q, hx, hb, hml, hown, hts, hK, hA, hsz, hw, hend, rfl⟩ := cx
  exact fun H locs ls hP hS hl => lv_lconst hx hb d hv (k H locs ls hP hS hl)
theorem ax_ldc2 (cx : Cx w ad own cc nL Ts R l rt Post G) {i : Nat} {v : Int64} (d : decode cc pc = .ok (.ldc2_w i, 3)) (hc : Cond.constantLong own i v ∈ Ts) (k : G M (pc + 3) lv (.long v :: st)) : G M pc lv st := by
  obtain ⟨p, e, s, m, args, below, meth, c, D, cI, cZ, A, Q, hx, hb, hml, hown, hts, hK, hA, hsz, hw, hend, rfl⟩ := cx
  exact fun H locs ls hP hS hl => lv_ldc2 hx hb hown (hts _ hc) d (k H locs ls hP hS hl)
theorem ax_lshl (cx : Cx w ad own cc nL Ts R l rt Post G) {x : Int64} {y : Int} (d : decode cc pc = .ok (.lshl, 1)) (k : G M (pc + 1) lv (.long (llshl x y) :: st)) : G M pc lv (iV y :: .long x :: st) := by
  obtain ⟨p, e, s, m, args, below, meth, c, D, cI, cZ, A, Q, hx, hb, hml, hown, hts, hK, hA, hsz, hw, hend, rfl⟩ := cx
  exact fun H locs ls hP hS hl => lv_lshl hx hb d rfl (k H locs ls hP hS hl)
theorem ax_lshr (cx : Cx w ad own cc nL Ts R l rt Post G) {x : Int64} {y : Int} (d : decode cc pc = .ok (.lshr, 1)) (k : G M (pc + 1) lv (.long (llshr x y) :: st)) : G M pc lv (iV y :: .long x :: st) := by
  obtain ⟨p, e, s, m, args, below, meth, c, D, cI, cZ, A, Q, hx, hb, hml, hown, hts, hK, hA, hsz, hw, hend, rfl⟩ := cx
  exact fun H locs ls hP hS hl => lv_lshr hx hb d rfl (k H locs ls hP hS hl)
theorem ax_lushr (cx : Cx w ad own cc nL Ts R l rt Post G) {x : Int64} {y : Int} (d : decode cc pc = .ok (.lushr, 1)) (k : G M (pc + 1) lv (.long (llushr x y) :: st)) : G M pc lv (iV y :: .long x :: st) := by
  obtain ⟨p, e, s, m, args, below, meth, c, D, cI, cZ, A, Q, hx, hb, hml, hown, hts, hK, hA, hsz, hw, hend, rfl⟩ := cx
  exact fun H locs ls hP hS hl => lv_lushr hx hb d rfl (k H locs ls hP hS hl)
theorem ax_land (cx : Cx w ad own cc nL Ts R l rt Post G) {x y : Int64} (d : decode cc pc = .ok (.land, 1)) (k : G M (pc + 1) lv (.long (x &&& y) :: st)) : G M pc lv (.long y :: .long x :: st) := by
  obtain ⟨p, e, s, m, args, below, meth, c, D, cI, cZ, A, Q, hx, hb, hml, hown, hts, hK, hA, hsz, hw, hend, rfl⟩ := cx
  exact fun H locs ls hP hS hl => lv_land hx hb d (k H locs ls hP hS hl)
theorem ax_lor (cx : Cx w ad own cc nL Ts R l rt Post G) {x y : Int64} (d : decode cc pc = .ok (.lor, 1)) (k : G M (pc + 1) lv (.long (x ||| y) :: st)) : G M pc lv (.long y :: .long x :: st) := by
  obtain ⟨p, e, s, m, args, below, meth, c, D, cI, cZ, A, Q, hx, hb, hml, hown, hts, hK, hA, hsz, hw, hend, rfl⟩ := cx
  exact fun H locs ls hP hS hl => lv_lor hx hb d (k H locs ls hP hS hl)
theorem ax_lxor (cx : Cx w ad own cc nL Ts R l rt Post G) {x y : Int64} (d : decode cc pc = .ok (.lxor, 1)) (k : G M (pc + 1) lv (.long (x ^^^ y) :: st)) : G M pc lv (.long y :: .long x :: st) := by
  obtain ⟨p, e, s, m, args, below, meth, c, D, cI, cZ, A, Q, hx, hb, hml, hown, hts, hK, hA, hsz, hw, hend, rfl⟩ := cx
  exact fun H locs ls hP hS hl => lv_lxor hx hb d (k H locs ls hP hS hl)
theorem ax_lcmp (cx : Cx w ad own cc nL Ts R l rt Post G) {x y : Int64} (d : decode cc pc = .ok (.lcmp, 1)) (k : G M (pc + 1) lv (iV (zlcmp x y) :: st)) : G M pc lv (.long y :: .long x :: st) := by
  obtain ⟨p, e, s, m, args, below, meth, c, D, cI, cZ, A, Q, hx, hb, hml, hown, hts, hK, hA, hsz, hw, hend, rfl⟩ := cx
  intro H locs ls hP hS hl
  have k := k H locs ls hP hS hl
  rw [show iV (zlcmp x y) = .int (lg_cmp x y) from by rw [iV, zlcmp, zi_asI]] at k
  exact W.lcmp hx hb d k
/-! the stack, and where it goes on -/
theorem ax_pop (cx : Cx w ad own cc nL Ts R l rt Post G) {v : Value} (d : decode cc pc = .ok (.pop, 1)) (hv : v.category = 1) (k : G M (pc + 1) lv st) : G M pc lv (v :: st) := by
  obtain ⟨p, e, s, m, args, below, meth, c, D, cI, cZ, A, Q, hx, hb, hml, hown, hts, hK, hA, hsz, hw, hend, rfl⟩ := cx
  exact fun H locs ls hP hS hl => lv_pop hx hb d hv (k H locs ls hP hS hl)
theorem ax_dup (cx : Cx w ad own cc nL Ts R l rt Post G) {v : Value} (d : decode cc pc = .ok (.dup, 1)) (hv : v.category = 1) (k : G M (pc + 1) lv (v :: v :: st)) : G M pc lv (v :: st) := by
  obtain ⟨p, e, s, m, args, below, meth, c, D, cI, cZ, A, Q, hx, hb, hml, hown, hts, hK, hA, hsz, hw, hend, rfl⟩ := cx
  exact fun H locs ls hP hS hl => lv_dup hx hb d hv (k H locs ls hP hS hl)
theorem ax_dup2 (cx : Cx w ad own cc nL Ts R l rt Post G) {v u : Value} (d : decode cc pc = .ok (.dup2, 1)) (hv : v.category = 1) (hu : u.category = 1) (k : G M (pc + 1) lv (v :: u :: v :: u :: st)) : G M pc lv (v :: u :: st) := by
  obtain ⟨p, e, s, m, args, below, meth, c, D, cI, cZ, A, Q, hx, hb, hml, hown, hts, hK, hA, hsz, hw, hend, rfl⟩ := cx
  exact fun H locs ls hP hS hl => lv_dup2_11 hx hb d hv hu (k H locs ls hP hS hl)
theorem ax_goto (cx : Cx w ad own cc nL Ts R l rt Post G) {off : Int} (tgt : Nat) (d : decode cc pc = .ok (.goto off, 3)) (ht : (pc : Int) + off = (tgt : Int)) (k : G M tgt lv st) : G M pc lv st := by
  obtain ⟨p, e, s, m, args, below, meth, c, D, cI, cZ, A, Q, hx, hb, hml, hown, hts, hK, hA, hsz, hw, hend, rfl⟩ := cx
  exact fun H locs ls hP hS hl => lv_goto hx hb d ht (k H locs ls hP hS hl)
theorem ax_icmp_eq (cx : Cx w ad own cc nL Ts R l rt Post G) {x y off : Int} (tgt : Nat) (d : decode cc pc = .ok (.if_icmp .eq off, 3)) (ht : (pc : Int) + off = (tgt : Int)) (gx : inR x) (gy : inR y) (kt : x = y → G M tgt lv st) (kf : ¬ (x = y) → G M (pc + 3) lv st) : G M pc lv (iV y :: iV x :: st) := by
  obtain ⟨p, e, s, m, args, below, meth, c, D, cI, cZ, A, Q, hx, hb, hml, hown, hts, hK, hA, hsz, hw, hend, rfl⟩ := cx
  intro H locs ls hP hS hl
  have hc := zi_eq gx gy
  exact lv_icmp_eq hx hb d ht (fun h => kt (hc.mp h) H locs ls hP hS hl) (fun h => kf (fun h2 => h (hc.mpr h2)) H locs ls hP hS hl)
theorem ax_icmp_ne (cx : Cx w ad own cc nL Ts R l rt Post G) {x y off : Int} (tgt : Nat) (d : decode cc pc = .ok (.if_icmp .ne off, 3)) (ht : (pc : Int) + off = (tgt : Int)) (gx : inR x) (gy : inR y) (kf : x = y → G M (pc + 3) lv st) (kt : ¬ x = y → G M tgt lv st) : G M pc lv (iV y :: iV x :: st) := by
  obtain ⟨p, e, s, m, args, below, meth, c, D, cI, cZ, A, Q, hx, hb, hml, hown, hts, hK, hA, hsz, hw, hend, rfl⟩ := cx
  intro H locs ls hP hS hl
  have hc := zi_eq gx gy
  exact lv_icmp_ne hx hb d ht (fun h => kt (fun h2 => h (hc.mpr h2)) H locs ls hP hS hl) (fun h => kf (hc.mp h) H locs ls hP hS hl)
theorem ax_icmp_lt (cx : Cx w ad own cc nL Ts R l rt Post G) {x y off : Int} (tgt : Nat) (d : decode cc pc = .ok (.if_icmp .lt off, 3)) (ht : (pc : Int) + off = (tgt : Int)) (gx : inR x) (gy : inR y) (kt : x < y → G M tgt lv st) (kf : ¬ (x < y) → G M (pc + 3) lv st) : G M pc lv (iV y :: iV x :: st) := by
  obtain ⟨p, e, s, m, args, below, meth, c, D, cI, cZ, A, Q, hx, hb, hml, hown, hts, hK, hA, hsz, hw, hend, rfl⟩ := cx
  intro H locs ls hP hS hl
  have hc := zi_lt gx gy
  exact lv_icmp_lt hx hb d ht (fun h => kt (hc.mp h) H locs ls hP hS hl) (fun h => kf (fun h2 => h (hc.mpr h2)) H locs ls hP hS hl)
theorem ax_icmp_ge (cx : Cx w ad own cc nL Ts R l rt Post G) {x y off : Int} (tgt : Nat) (d : decode cc pc = .ok (.if_icmp .ge off, 3)) (ht : (pc : Int) + off = (tgt : Int)) (gx : inR x) (gy : inR y) (kt : y ≤ x → G M tgt lv st) (kf : ¬ (y ≤ x) → G M (pc + 3) lv st) : G M pc lv (iV y :: iV x :: st) := by
  obtain ⟨p, e, s, m, args, below, meth, c, D, cI, cZ, A, Q, hx, hb, hml, hown, hts, hK, hA, hsz, hw, hend, rfl⟩ := cx
  intro H locs ls hP hS hl
  have hc := zi_le gy gx
  exact lv_icmp_ge hx hb d ht (fun h => kt (hc.mp h) H locs ls hP hS hl) (fun h => kf (fun h2 => h (hc.mpr h2)) H locs ls hP hS hl)
theorem ax_icmp_gt (cx : Cx w ad own cc nL Ts R l rt Post G) {x y off : Int} (tgt : Nat) (d : decode cc pc = .ok (.if_icmp .gt off, 3)) (ht : (pc : Int) + off = (tgt : Int)) (gx : inR x) (gy : inR y) (kt : y < x → G M tgt lv st) (kf : ¬ (y < x) → G M (pc + 3) lv st) : G M pc lv (iV y :: iV x :: st) := by
  obtain ⟨p, e, s, m, args, below, meth, c, D, cI, cZ, A, Q, hx, hb, hml, hown, hts, hK, hA, hsz, hw, hend, rfl⟩ := cx
  intro H locs ls hP hS hl
  have hc := zi_lt gy gx
  exact lv_icmp_gt hx hb d ht (fun h => kt (hc.mp h) H locs ls hP hS hl) (fun h => kf (fun h2 => h (hc.mpr h2)) H locs ls hP hS hl)
theorem ax_icmp_le (cx : Cx w ad own cc nL Ts R l rt Post G) {x y off : Int} (tgt : Nat) (d : decode cc pc = .ok (.if_icmp .le off, 3)) (ht : (pc : Int) + off = (tgt : Int)) (gx : inR x) (gy : inR y) (kt : x ≤ y → G M tgt lv st) (kf : ¬ (x ≤ y) → G M (pc + 3) lv st) : G M pc lv (iV y :: iV x :: st) := by
  obtain ⟨p, e, s, m, args, below, meth, c, D, cI, cZ, A, Q, hx, hb, hml, hown, hts, hK, hA, hsz, hw, hend, rfl⟩ := cx
  intro H locs ls hP hS hl
  have hc := zi_le gx gy
  exact lv_icmp_le hx hb d ht (fun h => kt (hc.mp h) H locs ls hP hS hl) (fun h => kf (fun h2 => h (hc.mpr h2)) H locs ls hP hS hl)
theorem ax_if_eq (cx : Cx w ad own cc nL Ts R l rt Post G) {x off : Int} (tgt : Nat) (d : decode cc pc = .ok (.ifCond .eq off, 3)) (ht : (pc : Int) + off = (tgt : Int)) (gx : inR x) (kt : x = 0 → G M tgt lv st) (kf : ¬ (x = 0) → G M (pc + 3) lv st) : G M pc lv (iV x :: st) := by
  obtain ⟨p, e, s, m, args, below, meth, c, D, cI, cZ, A, Q, hx, hb, hml, hown, hts, hK, hA, hsz, hw, hend, rfl⟩ := cx
  intro H locs ls hP hS hl
  have z0 : inR 0 := ⟨by decide, by decide⟩
  have hc := zi_eq gx z0
  exact lv_if_eq hx hb d ht (fun h => kt (hc.mp h) H locs ls hP hS hl) (fun h => kf (fun h2 => h (hc.mpr h2)) H locs ls hP hS hl)
theorem ax_if_ne (cx : Cx w ad own cc nL Ts R l rt Post G) {x off : Int} (tgt : Nat) (d : decode cc pc = .ok (.ifCond .ne off, 3)) (ht : (pc : Int) + off = (tgt : Int)) (gx : inR x) (kf : x = 0 → G M (pc + 3) lv st) (kt : ¬ x = 0 → G M tgt lv st) : G M pc lv (iV x :: st) := by
  obtain ⟨p, e, s, m, args, below, meth, c, D, cI, cZ, A, Q, hx, hb, hml, hown, hts, hK, hA, hsz, hw, hend, rfl⟩ := cx
  intro H locs ls hP hS hl
  have z0 : inR 0 := ⟨by decide, by decide⟩
  have hc := zi_eq gx z0
  exact lv_if_ne hx hb d ht (fun h => kt (fun h2 => h (hc.mpr h2)) H locs ls hP hS hl) (fun h => kf (hc.mp h) H locs ls hP hS hl)
theorem ax_if_lt (cx : Cx w ad own cc nL Ts R l rt Post G) {x off : Int} (tgt : Nat) (d : decode cc pc = .ok (.ifCond .lt off, 3)) (ht : (pc : Int) + off = (tgt : Int)) (gx : inR x) (kt : x < 0 → G M tgt lv st) (kf : ¬ (x < 0) → G M (pc + 3) lv st) : G M pc lv (iV x :: st) := by
  obtain ⟨p, e, s, m, args, below, meth, c, D, cI, cZ, A, Q, hx, hb, hml, hown, hts, hK, hA, hsz, hw, hend, rfl⟩ := cx
  intro H locs ls hP hS hl
  have z0 : inR 0 := ⟨by decide, by decide⟩
  have hc := zi_lt gx z0
  exact lv_if_lt hx hb d ht (fun h => kt (hc.mp h) H locs ls hP hS hl) (fun h => kf (fun h2 => h (hc.mpr h2)) H locs ls hP hS hl)
theorem ax_if_ge (cx : Cx w ad own cc nL Ts R l rt Post G) {x off : Int} (tgt : Nat) (d : decode cc pc = .ok (.ifCond .ge off, 3)) (ht : (pc : Int) + off = (tgt : Int)) (gx : inR x) (kt : 0 ≤ x → G M tgt lv st) (kf : ¬ (0 ≤ x) → G M (pc + 3) lv st) : G M pc lv (iV x :: st) := by
  obtain ⟨p, e, s, m, args, below, meth, c, D, cI, cZ, A, Q, hx, hb, hml, hown, hts, hK, hA, hsz, hw, hend, rfl⟩ := cx
  intro H locs ls hP hS hl
  have z0 : inR 0 := ⟨by decide, by decide⟩
  have hc := zi_le z0 gx
  exact lv_if_ge hx hb d ht (fun h => kt (hc.mp h) H locs ls hP hS hl) (fun h => kf (fun h2 => h (hc.mpr h2)) H locs ls hP hS hl)
theorem ax_if_gt (cx : Cx w ad own cc nL Ts R l rt Post G) {x off : Int} (tgt : Nat) (d : decode cc pc = .ok (.ifCond .gt off, 3)) (ht : (pc : Int) + off = (tgt : Int)) (gx : inR x) (kt : 0 < x → G M tgt lv st) (kf : ¬ (0 < x) → G M (pc + 3) lv st) : G M pc lv (iV x :: st) := by
  obtain ⟨p, e, s, m, args, below, meth, c, D, cI, cZ, A, Q, hx, hb, hml, hown, hts, hK, hA, hsz, hw, hend, rfl⟩ := cx
  intro H locs ls hP hS hl
  have z0 : inR 0 := ⟨by decide, by decide⟩
  have hc := zi_lt z0 gx
  exact lv_if_gt hx hb d ht (fun h => kt (hc.mp h) H locs ls hP hS hl) (fun h => kf (fun h2 => h (hc.mpr h2)) H locs ls hP hS hl)
theorem ax_if_le (cx : Cx w ad own cc nL Ts R l rt Post G) {x off : Int} (tgt : Nat) (d : decode cc pc = .ok (.ifCond .le off, 3)) (ht : (pc : Int) + off = (tgt : Int)) (gx : inR x) (kt : x ≤ 0 → G M tgt lv st) (kf : ¬ (x ≤ 0) → G M (pc + 3) lv st) : G M pc lv (iV x :: st) := by
  obtain ⟨p, e, s, m, args, below, meth, c, D, cI, cZ, A, Q, hx, hb, hml, hown, hts, hK, hA, hsz, hw, hend, rfl⟩ := cx
  intro H locs ls hP hS hl
  have z0 : inR 0 := ⟨by decide, by decide⟩
  have hc := zi_le gx z0
  exact lv_if_le hx hb d ht (fun h => kt (hc.mp h) H locs ls hP hS hl) (fun h => kf (fun h2 => h (hc.mpr h2)) H locs ls hP hS hl)
theorem ax_tableIn (cx : Cx w ad own cc nL Ts R l rt Post G) {dflt lo hi : Int} {offs : Array Int} {len : Nat} {x off : Int} (tgt : Nat) (d : decode cc pc = .ok (.tableswitch dflt lo hi offs, len)) (gx : inR x) (h1 : ¬ x < lo) (h2 : ¬ hi < x) (ho : offs[(x - lo).toNat]? = some off) (ht : (pc : Int) + off = (tgt : Int)) (k : G M tgt lv st) : G M pc lv (iV x :: st) := by
  obtain ⟨p, e, s, m, args, below, meth, c, D, cI, cZ, A, Q, hx, hb, hml, hown, hts, hK, hA, hsz, hw, hend, rfl⟩ := cx
  exact fun H locs ls hP hS hl => lv_tableIn hx hb d (by rw [zi_toInt gx]; exact h1) (by rw [zi_toInt gx]; exact h2) (by rw [zi_toInt gx]; exact ho) ht (k H locs ls hP hS hl)
theorem ax_tableOut (cx : Cx w ad own cc nL Ts R l rt Post G) {dflt lo hi : Int} {offs : Array Int} {len : Nat} {x : Int} (tgt : Nat) (d : decode cc pc = .ok (.tableswitch dflt lo hi offs, len)) (gx : inR x) (h : x < lo ∨ hi < x) (ht : (pc : Int) + dflt = (tgt : Int)) (k : G M tgt lv st) : G M pc lv (iV x :: st) := by
  obtain ⟨p, e, s, m, args, below, meth, c, D, cI, cZ, A, Q, hx, hb, hml, hown, hts, hK, hA, hsz, hw, hend, rfl⟩ := cx
  exact fun H locs ls hP hS hl => lv_tableOut hx hb d (by rw [zi_toInt gx]; exact h) ht (k H locs ls hP hS hl)
/-! fields and arrays -/
theorem ax_getf (cx : Cx w ad own cc nL Ts R l rt Post G) {q k ci index N : Nat} {T : u_T} {C ref : String} {fs : List Value} {v : Value} (hq : w.2.1 ≤ q ∧ q < w.1) (ho : w.2.2.2.2 ad M q = (ci, fs)) (hc : vwCl[ci]? = some (C, T, N)) (hin : ∀ x ∈ u_ws C T N, x ∈ Ts) (hk : k < N) (hlink : Cond.fieldLink own index ref (T k).2.1 (T k).2.2.1 ∈ Ts) (href : (T k).1 = ref) (hv : fs[k]? = some v) (d : decode cc pc = .ok (.getfield index, 3)) (kk : G M (pc + 3) lv (v :: st)) : G M pc lv (.ref (ad q) :: st) := by
  obtain ⟨p, e, s, m, args, below, meth, c, D, cI, cZ, A, Q, hx, hb, hml, hown, hts, hK, hA, hsz, hw, hend, rfl⟩ := cx
  subst href
  intro H locs ls hP hS hl
  exact va_get hx hb hts hin hown hK hP q (by rw [cells_get hq.2, wcell_obj hq.1, ho]) hc k hk (hts _ hlink) (fun _ h => h) hv d (kk H locs ls hP hS hl)
theorem ax_putf (cx : Cx w ad own cc nL Ts R l rt Post G) {q k ci index N f : Nat} {z : Int} {T : u_T} {C ref : String} {fs : List Value} {ty : FieldType} (hq : w.2.1 ≤ q ∧ q < w.1) (ho : w.2.2.2.2 ad M q = (ci, fs)) (hc : vwCl[ci]? = some (C, T, N)) (hin : ∀ x ∈ u_ws C T N, x ∈ Ts) (ty0 : Nat → FieldType) (hty : ∀ k, k < N → parseFieldDescriptor (T k).2.2.1 = some (ty0 k)) (hnm : ∀ a, a < N → ∀ b, b < N → a ≠ b → (T a).2.1 ≠ (T b).2.1) (hk : k < N) (hlink : Cond.fieldLink own index ref (T k).2.1 (T k).2.2.1 ∈ Ts) (href : (T k).1 = ref) (hfin : (T k).2.2.2 = false) (hd : parseFieldDescriptor (T k).2.2.1 = some ty) (hn : narrow ty (iV z) = iV z) (hfit : fits ty (iV z) = true) (hl9 : k < fs.length) (hf : 100 ≤ f)
    (ho1 : w.2.2.2.2 ad (wr M f 0 z) q = (ci, fs.set k (iV z))) (ho2 : ∀ j, w.2.1 ≤ j → j ≠ q → w.2.2.2.2 ad (wr M f 0 z) j = w.2.2.2.2 ad M j) (d : decode cc pc = .ok (.putfield index, 3)) (kk : G (wr M f 0 z) (pc + 3) lv st) : G M pc lv (iV z :: .ref (ad q) :: st) := by
  obtain ⟨p, e, s, m, args, below, meth, c, D, cI, cZ, A, Q, hx, hb, hml, hown, hts, hK, hA, hsz, hw, hend, rfl⟩ := cx
  subst href
  intro H locs ls hP hS hl
  refine va_put hx hb hts hin ty0 hty hnm hown hK hP (hA.D M) hS q (by rw [cells_get hq.2, wcell_obj hq.1, ho]) hc k hk (hts _ hlink) (fun _ h => h) hfin hd hn hfit hl9 d (fun H1 locs1 hP1 _ hS1 => kk H1 locs1 ls ?_ hS1 hl)
  rw [cells_set (M' := wr M f 0 z) hq.2 (by rw [wcell_obj hq.1, ho1]) (fun j hj hne => ?_)] at hP1
  · exact hP1
  · rcases Nat.lt_or_ge j w.2.1 with h | h
    · rw [wcell_arr h, wcell_arr h, wr_row]
      have := hw.2.1
      omega
    · rw [wcell_obj h, wcell_obj h, ho2 j h hne]
theorem ax_iald (cx : Cx w ad own cc nL Ts R l rt Post G) {a n : Nat} {z : Int} (ha : a < w.2.1) (hz : w.2.2.2.1 a = false) (hn : w.2.2.1 a = n) (hin : inB z n) (d : decode cc pc = .ok (.iaload, 1)) (k : G M (pc + 1) lv (iV (M a z.toNat) :: st)) : G M pc lv (iV z :: .ref (ad a) :: st) := by
  obtain ⟨p, e, s, m, args, below, meth, c, D, cI, cZ, A, Q, hx, hb, hml, hown, hts, hK, hA, hsz, hw, hend, rfl⟩ := cx
  subst hn
  intro H locs ls hP hS hl
  have hlt := hw.2.2.1 a
  have k := k H locs ls hP hS hl
  refine va_iald hx hb hK hP a 0 (cA := cI) (n := w.2.2.1 a) (f := fun j => Int32.ofInt (M a j)) (by rw [cells_get (Nat.lt_of_lt_of_le ha hw.1), wcell_arr ha, hz]; rfl) rfl (zi_in hin hlt) d ?_
  rw [zi_cl hin.1 (by have := hin.2; omega)]
  exact k
theorem ax_zald (cx : Cx w ad own cc nL Ts R l rt Post G) {a n : Nat} {z : Int} (ha : a < w.2.1) (hz : w.2.2.2.1 a = true) (hn : w.2.2.1 a = n) (hin : inB z n) (d : decode cc pc = .ok (.baload, 1)) (k : G M (pc + 1) lv (iV (M a z.toNat) :: st)) : G M pc lv (iV z :: .ref (ad a) :: st) := by
  obtain ⟨p, e, s, m, args, below, meth, c, D, cI, cZ, A, Q, hx, hb, hml, hown, hts, hK, hA, hsz, hw, hend, rfl⟩ := cx
  subst hn
  intro H locs ls hP hS hl
  have hlt := hw.2.2.1 a
  have k := k H locs ls hP hS hl
  refine va_zald hx hb hK hP a 1 (cA := cZ) (n := w.2.2.1 a) (f := fun j => Int32.ofInt (M a j)) (by rw [cells_get (Nat.lt_of_lt_of_le ha hw.1), wcell_arr ha, hz]; rfl) rfl (zi_in hin hlt) d ?_
  rw [zi_cl hin.1 (by have := hin.2; omega)]
  exact k
theorem ax_iast (cx : Cx w ad own cc nL Ts R l rt Post G) {a n : Nat} {z v : Int} (ha : a < w.2.1) (hz : w.2.2.2.1 a = false) (hn : w.2.2.1 a = n) (hin : inB z n) (d : decode cc pc = .ok (.iastore, 1)) (k : G (wr M a z.toNat v) (pc + 1) lv st) : G M pc lv (iV v :: iV z :: .ref (ad a) :: st) := by
  obtain ⟨p, e, s, m, args, below, meth, c, D, cI, cZ, A, Q, hx, hb, hml, hown, hts, hK, hA, hsz, hw, hend, rfl⟩ := cx
  subst hn
  intro H locs ls hP hS hl
  have hlt := hw.2.2.1 a
  refine va_iast hx hb hK hP (hA.D M) hS a 0 (cA := cI) (n := w.2.2.1 a) (f := fun j => Int32.ofInt (M a j)) (by rw [cells_get (Nat.lt_of_lt_of_le ha hw.1), wcell_arr ha, hz]; rfl) rfl (zi_in hin hlt) d (fun H1 locs1 hP1 _ hS1 => k H1 locs1 ls ?_ hS1 hl)
  rw [zi_cl hin.1 (by have := hin.2; omega), cells_store hw ha v (by rw [hz]; rfl)] at hP1
  exact hP1
theorem ax_zast (cx : Cx w ad own cc nL Ts R l rt Post G) {a n : Nat} {z v : Int} (ha : a < w.2.1) (hz : w.2.2.2.1 a = true) (hn : w.2.2.1 a = n) (hin : inB z n) (hv : v = 0 ∨ v = 1) (d : decode cc pc = .ok (.bastore, 1)) (k : G (wr M a z.toNat v) (pc + 1) lv st) : G M pc lv (iV v :: iV z :: .ref (ad a) :: st) := by
  obtain ⟨p, e, s, m, args, below, meth, c, D, cI, cZ, A, Q, hx, hb, hml, hown, hts, hK, hA, hsz, hw, hend, rfl⟩ := cx
  subst hn
  intro H locs ls hP hS hl
  have hlt := hw.2.2.1 a
  refine va_zast hx hb hK hP (hA.D M) hS a 1 (cA := cZ) (n := w.2.2.1 a) (f := fun j => Int32.ofInt (M a j)) (by rw [cells_get (Nat.lt_of_lt_of_le ha hw.1), wcell_arr ha, hz]; rfl) rfl (zi_in hin hlt) d (fun H1 locs1 hP1 _ hS1 => k H1 locs1 ls ?_ hS1 hl)
  have e : vp_nar .boolean (Int32.ofInt v) = Int32.ofInt v := by rcases hv with rfl | rfl <;> rfl
  rw [e, zi_cl hin.1 (by have := hin.2; omega), cells_store hw ha v (by rw [hz]; rfl)] at hP1
  exact hP1
theorem ax_min (cx : Cx w ad own cc nL Ts R l rt Post G) {index : Nat} {x y : Int} (gx : inR x) (gy : inR y) (hl9 : Cond.methodLink own index Lib.Math.min.name ∈ Ts) (h2 : Cond.static Lib.Math.min.name ∈ Ts) (h3 : Cond.initialized "java/lang/Math" ∈ Ts) (h4 : Cond.code Lib.Math.min.name Lib.Math.min.code 2 (some .int) ∈ Ts) (hfr : 1 ≤ R.frames) (hlo : (st.map fun v => v.category).sum + 13 ≤ R.locals) (d : decode cc pc = .ok (.invokestatic index, 3)) (k : G M (pc + 3) lv (iV (if y < x then y else x) :: st)) : G M pc lv (iV y :: iV x :: st) := by
  obtain ⟨p, e, s, m, args, below, meth, c, D, cI, cZ, A, Q, hx, hb, hml, hown, hts, hK, hA, hsz, hw, hend, rfl⟩ := cx
  intro H locs ls hP hS hl
  have k := k H locs ls hP hS hl
  refine va_mmin hx hb (hml.trans hl.1.symm) hown (hts _ hl9) (hts _ h2) (hts _ h3) (hts _ h4) hfr hlo (Nat.zero_le _) (Nat.zero_le _) d ?_
  by_cases hc : y < x
  · rw [if_pos hc] at k
    rw [if_pos ((zi_lt gy gx).mpr hc)]
    exact k
  · rw [if_neg hc] at k
    rw [if_neg (fun h => hc ((zi_lt gy gx).mp h))]
    exact k
theorem ax_max (cx : Cx w ad own cc nL Ts R l rt Post G) {index : Nat} {x y : Int} (gx : inR x) (gy : inR y) (hl9 : Cond.methodLink own index Lib.Math.max.name ∈ Ts) (h2 : Cond.static Lib.Math.max.name ∈ Ts) (h3 : Cond.initialized "java/lang/Math" ∈ Ts) (h4 : Cond.code Lib.Math.max.name Lib.Math.max.code 2 (some .int) ∈ Ts) (hfr : 1 ≤ R.frames) (hlo : (st.map fun v => v.category).sum + 13 ≤ R.locals) (d : decode cc pc = .ok (.invokestatic index, 3)) (k : G M (pc + 3) lv (iV (if x < y then y else x) :: st)) : G M pc lv (iV y :: iV x :: st) := by
  obtain ⟨p, e, s, m, args, below, meth, c, D, cI, cZ, A, Q, hx, hb, hml, hown, hts, hK, hA, hsz, hw, hend, rfl⟩ := cx
  intro H locs ls hP hS hl
  have k := k H locs ls hP hS hl
  refine va_mmax hx hb (hml.trans hl.1.symm) hown (hts _ hl9) (hts _ h2) (hts _ h3) (hts _ h4) hfr hlo (Nat.zero_le _) (Nat.zero_le _) d ?_
  by_cases hc : x < y
  · rw [if_pos hc] at k
    rw [if_pos ((zi_lt gx gy).mpr hc)]
    exact k
  · rw [if_neg hc] at k
    rw [if_neg (fun h => hc ((zi_lt gx gy).mp h))]
    exact k
def cpA (M : Mem) (a b n : Nat) : Mem := fun c j => if c = b ∧ j < n then M a j else M c j
theorem ax_copy (cx : Cx w ad own cc nL Ts R l rt Post G) {index a b n : Nat} (ha : a < w.2.1) (hb9 : b < w.2.1) (hza : w.2.2.2.1 a = false) (hzb : w.2.2.2.1 b = false) (hna : w.2.2.1 a = n) (hnb : w.2.2.1 b = n) (hl9 : Cond.methodLink own index arraycopyName ∈ Ts) (h1 : Cond.native arraycopyName ∈ Ts) (h2 : Cond.static arraycopyName ∈ Ts) (h3 : Cond.initialized "java/lang/System" ∈ Ts) (hfr : 1 ≤ R.frames) (hlo : (st.map fun v => v.category).sum + (nativeFrameWords "java/lang/System" "arraycopy" 5 + 11) ≤ R.locals) (d : decode cc pc = .ok (.invokestatic index, 3)) (k : G (cpA M a b n) (pc + 3) lv st) : G M pc lv (iV (n : Int) :: iV 0 :: .ref (ad b) :: iV 0 :: .ref (ad a) :: st) := by
  obtain ⟨p, e, s, m, args, below, meth, c, D, cI, cZ, A, Q, hx, hb, hml, hown, hts, hK, hA, hsz, hw, hend, rfl⟩ := cx
  intro H locs ls hP hS hl
  have hlt : n < 2147483648 := hna ▸ hw.2.2.1 a
  have hn : (Int32.ofInt (n : Int)).toNatClampNeg = n := by rw [zi_cl (by omega) (by omega)]; omega
  have h0 : (Int32.ofInt 0).toNatClampNeg = 0 := rfl
  refine va_copyi hx hb (hml.trans hl.1.symm) hown (hts _ hl9) (hts _ h1) (hts _ h2) (hts _ h3) hK hP (hA.D M) hS a b 0 0 (c0 := cI) (c1 := cI) (n0 := n) (n1 := n) (f := fun j => Int32.ofInt (M a j)) (g := fun j => Int32.ofInt (M b j)) (ty := .int) (by rw [cells_get (Nat.lt_of_lt_of_le ha hw.1), wcell_arr ha, hza, hna]; rfl) (by rw [cells_get (Nat.lt_of_lt_of_le hb9 hw.1), wcell_arr hb9, hzb, hnb]; rfl) rfl rfl rfl (by decide) (by decide) (fun h => ?_) (by rw [h0, hn]; omega) (by rw [h0, hn]; omega) (fun _ _ => rfl) hfr hlo d (fun H1 locs1 hP1 _ hS1 => k H1 locs1 ls ?_ hS1 hl)
  · rw [Int32.lt_iff_toInt_lt, zi_toInt ⟨by omega, by omega⟩] at h
    have : (0 : Int32).toInt = 0 := rfl
    omega
  · rw [h0, hn] at hP1
    rw [← hnb] at hP1
    rw [cells_set (w := w) (cI := cI) (cZ := cZ) (ad := ad) (M := M) (M' := cpA M a b n) (q := b) (Nat.lt_of_lt_of_le hb9 hw.1) (by rw [wcell_arr hb9, hzb]; refine congrArg _ (congrArg (Prod.mk _) (congrArg (Prod.mk _) (congrArg _ ?_))); funext j; simp only [cpA, va_cpy, true_and, Nat.zero_le, Nat.zero_add, Nat.sub_zero, hnb]; split <;> rfl) (fun j hj hne => ?_)] at hP1
    · exact hP1
    · rcases Nat.lt_or_ge j w.2.1 with h | h
      · rw [wcell_arr h, wcell_arr h]
        have e : cpA M a b n j = M j := by funext i; simp [cpA, hne]
        rw [e]
      · rw [wcell_obj h, wcell_obj h]
        refine congrArg _ (hw.2.2.2 ad _ _ j fun c i hc => ?_)
        have : c ≠ b := by have := hw.2.1; omega
        simp [cpA, this]
/-! ends -/
theorem ax_iret (cx : Cx w ad own cc nL Ts R l rt Post G) {z : Int} (d : decode cc pc = .ok (.ireturn, 1)) (hr : rt = some .int) (hp : Post (some (iV z)) M) : G M pc lv [iV z] := by
  obtain ⟨p, e, s, m, args, below, meth, c, D, cI, cZ, A, Q, hx, hb, hml, hown, hts, hK, hA, hsz, hw, hend, rfl⟩ := cx
  exact fun H locs ls hP hS hl => hend M (some (iV z)) H locs ls pc hP hS hp (Or.inl ⟨d, .int, _, hr, rfl, rfl⟩)
theorem ax_zret (cx : Cx w ad own cc nL Ts R l rt Post G) {z : Int} (d : decode cc pc = .ok (.ireturn, 1)) (hr : rt = some .boolean) (hz : z = 0 ∨ z = 1) (hp : Post (some (iV z)) M) : G M pc lv [iV z] := by
  obtain ⟨p, e, s, m, args, below, meth, c, D, cI, cZ, A, Q, hx, hb, hml, hown, hts, hK, hA, hsz, hw, hend, rfl⟩ := cx
  exact fun H locs ls hP hS hl => hend M (some (iV z)) H locs ls pc hP hS hp (Or.inl ⟨d, .boolean, _, hr, rfl, by rcases hz with rfl | rfl <;> rfl⟩)
theorem ax_vret (cx : Cx w ad own cc nL Ts R l rt Post G) (d : decode cc pc = .ok (.return_, 1)) (hr : rt = none) (hp : Post none M) : G M pc lv [] := by
  obtain ⟨p, e, s, m, args, below, meth, c, D, cI, cZ, A, Q, hx, hb, hml, hown, hts, hK, hA, hsz, hw, hend, rfl⟩ := cx
  exact fun H locs ls hP hS hl => hend M none H locs ls pc hP hS hp (Or.inr (Or.inl ⟨d, rfl, hr⟩))
theorem ax_lret (cx : Cx w ad own cc nL Ts R l rt Post G) {x : Int64} (d : decode cc pc = .ok (.lreturn, 1)) (hr : rt = some .long) (hp : Post (some (.long x)) M) : G M pc lv [.long x] := by
  obtain ⟨p, e, s, m, args, below, meth, c, D, cI, cZ, A, Q, hx, hb, hml, hown, hts, hK, hA, hsz, hw, hend, rfl⟩ := cx
  exact fun H locs ls hP hS hl => hend M (some (.long x)) H locs ls pc hP hS hp (Or.inr (Or.inr ⟨d, x, rfl, hr⟩))
theorem ax_lv (cx : Cx w ad own cc nL Ts R l rt Post G) {lv' : List (Nat × Value)} (is : List Nat) (hl' : lv_pick lv is = lv') (k : G M pc lv' st) : G M pc lv st := by
  obtain ⟨p, e, s, m, args, below, meth, c, D, cI, cZ, A, Q, hx, hb, hml, hown, hts, hK, hA, hsz, hw, hend, rfl⟩ := cx
  exact fun H locs ls hP hS hl => k H locs ls hP hS (lv_sub hl is hl')
end ROWS
/-! a method's contract: from the memory M with these arguments it returns v, and the memory is M' -/
def qX (v : Option Value) (M' : Mem) (B : Mem → State → Prop) (A : Nat → Prop) : Array Value → State → Outcome → State → Prop := fun _ st oc t => (oc = .returned v ∧ B M' t) ∧ va_F A st t
def MX (l : Launch) (y : MethodName) (ws : List Cond) (rm : Room) (w : WD) (ad : Nat → Nat) (As : List Value) (M : Mem) (v : Option Value) (M' : Mem) : Prop :=
  ∀ (D : va_G) (cI cZ : ClassId) (sz : Nat), Met l y ws rm (va_Pc As (fun U => U.heap.size = sz ∧ va_P D vwCl (cellsOf w cI cZ ad M) U.heap ∧ va_K D vwCl [(cI, .int), (cZ, .boolean)] U ∧ va_D (fun _ => True) (cellsOf w cI cZ ad M))) (qX v M' (fun M2 t => va_P D vwCl (cellsOf w cI cZ ad M2) t.heap) (fA w ad sz)) 0 0 (fA w ad sz)
theorem MX.of {l : Launch} {y : MethodName} {ws ws' : List Cond} {rm : Room} {w : WD} {ad : Nat → Nat} {As : List Value} {M M' : Mem} {v : Option Value} {own : String} {cc : ByteArray} {nL : Nat} {rt : Option FieldType} (hy : plainName y.cls = true) (hw : ws = Cond.code y cc nL rt :: ws') (hown : y.cls = own) (hn : (lg_sl As).length ≤ nL) (hwok : wOK w)
    (body : ∀ G, Cx w ad own cc nL ws rm l rt (fun v2 M2 => v2 = v ∧ M2 = M') G → G M 0 (lv_args 0 As) []) : MX l y ws rm w ad As M v M' := by
  intro D cI cZ sz
  refine Met.ofW (cc := cc) (maxL := nL) (ret := rt) hy hw ?_
  intro p e s m args below meth c s₁ B hml hv
  obtain ⟨rfl, hsz, hP, hK, hD0⟩ := hv
  subst hsz
  have had := adOK.of hD0
  rw [lg_entry_eq]
  refine body _ ⟨p, e, s, m, As.toArray, below, meth, c, D, cI, cZ, fA w ad s.heap.size, MQ below (qX v M' (fun M2 t => va_P D vwCl (cellsOf w cI cZ ad M2) t.heap) (fA w ad s.heap.size)) As.toArray s 0 0 (fA w ad s.heap.size), B.exec, B.bytes, hml, by rw [← hown]; exact findClass_of_methodNamed B.named, atoms_spec (ws := ws) B.pre, hK, ⟨had.1, fun k hk => Or.inl ⟨k, hk, rfl⟩⟩, fun q h => Or.inr h, hwok, ?_, rfl⟩ s.heap [] _ hP va_S.rf (lv_entry As hn)
  intro M2 v2 H locs ls pc hP2 hS hp hret
  obtain ⟨rfl, rfl⟩ := hp
  have hr := B.returns
  have hlocks := B.notSynchronized
  rcases hret with ⟨d, ty, x, h1, rfl, h3⟩ | ⟨d, rfl, h2⟩ | ⟨d, x, rfl, h2⟩
  · exact W.zret (ty := ty) B.exec B.bytes (hr.trans h1) h3 (fun t ht hW => ⟨⟨rfl, by show va_P _ _ _ t.heap; rw [ht]; exact hP2⟩, hS.F ht⟩) hS.2.2 d
  · exact W.vret B.exec B.bytes (hr.trans h2) (fun t ht hW => ⟨⟨rfl, by show va_P _ _ _ t.heap; rw [ht]; exact hP2⟩, hS.F ht⟩) hS.2.2 d
  · exact W.lret B.exec B.bytes (hr.trans h2) (fun t ht hW => ⟨⟨rfl, by show va_P _ _ _ t.heap; rw [ht]; exact hP2⟩, hS.F ht⟩) hS.2.2 d
section CALLS
variable {w : WD} {ad : Nat → Nat} {own : String} {cc : ByteArray} {nL : Nat} {Ts : List Cond} {R : Room} {l : Launch} {rt : Option FieldType} {Post : Option Value → Mem → Prop} {G : Mem → Nat → List (Nat × Value) → List Value → Prop}
theorem fA_le {w : WD} {ad : Nat → Nat} {A : Nat → Prop} {s H : Nat} (hA : adOK w ad A) (h : ∀ q, s ≤ q → A q) (hs : s ≤ H) : ∀ q, fA w ad H q → A q := fun q hq => by
  rcases hq with ⟨k, hk, rfl⟩ | hq
  · exact hA.2 k hk
  · exact h q (Nat.le_trans hs hq)
theorem ax_call {p : Program} {e : Env} {s : State} {m : MethodId} {args : Array Value} {below : List Frame} {meth : Method} {c : Code} {D : va_G} {cI cZ : ClassId} {A : Nat → Prop} {Q : State → Prop} {H : Heap} {locs : List Loc} {pc : Nat} {ls : Array Slot} {stk st : List Value} {M' : Mem} {v : Option Value} {Qa : Array Value} (hA : adOK w ad A) (hsz : ∀ q, s.heap.size ≤ q → A q) (hS : va_S A s.heap H locs)
    (hr : va_Run p l e R s m args below meth c H locs 0 0 0 0 (F0 m pc ls stk) st (qX v M' (fun M2 t => va_P D vwCl (cellsOf w cI cZ ad M2) t.heap) (fA w ad H.size) Qa) (fA w ad H.size))
    (k : ∀ (H1 : Heap) (locs1 : List Loc), va_P D vwCl (cellsOf w cI cZ ad M') H1 → va_S A s.heap H1 locs1 → W p l e R s m args below meth c H1 locs1 0 0 Q (F0 m (pc + 3) ls (v.toList ++ st))) : W p l e R s m args below meth c H locs 0 0 Q (F0 m pc ls stk) := by
  have hf := fA_le hA hsz hS.1
  intro T hT X
  obtain ⟨v1, st₀, t, T', L, h0, X', hL, e1, e2, ⟨⟨hv, hb⟩, hz, hk⟩, g⟩ := hr T hT X
  cases hv
  have hS1 : va_S A s.heap T'.heap (locs ++ L) := by
    refine ⟨Nat.le_trans hS.1 (by rw [e1, ← h0]; exact hz), fun q h1 h2 => ?_, fun z hz => ?_⟩
    · have h3 : ¬ fA w ad H.size q := fun h => h2 (hf q h)
      rw [e1, hk q (by rw [h0]; exact Nat.lt_of_lt_of_le h1 hS.1) h3, h0]
      exact hS.2.1 q h1 h2
    · rcases List.mem_append.mp hz with h | h
      · exact hS.2.2 z h
      · exact hf _ (hL z h)
  obtain ⟨t2, a1, b1⟩ := k T'.heap (locs ++ L) (by rw [e1]; exact hb) hS1 T' rfl X'
  exact ⟨t2, g t2 a1, b1⟩
variable {M : Mem} {pc : Nat} {lv : List (Nat × Value)} {st : List Value}
theorem mx_blind {w : WD} {ad : Nat → Nat} {D : va_G} {cI cZ : ClassId} {sz : Nat} {As : List Value} {M : Mem} : FrameBlind (va_Pc As (fun U => U.heap.size = sz ∧ va_P D vwCl (cellsOf w cI cZ ad M) U.heap ∧ va_K D vwCl [(cI, .int), (cZ, .boolean)] U ∧ va_D (fun _ => True) (cellsOf w cI cZ ad M))) := by
  intro a U g mk h
  obtain ⟨h1, h2, h3, h4, h5⟩ := h
  exact ⟨h1, h2, h3, va_K.moved (u := U) (U := U.calling g mk a) (Vm.Alike.refl U.vm) h4, h5⟩
theorem ax_callV (cx : Cx w ad own cc nL Ts R l rt Post G) {y : MethodName} {ws ws' : List Cond} {rm : Room} {As : List Value} {M' : Mem} {v : Option Value} {q ci index n maxL N : Nat} {C : String} {T : u_T} {fs : List Value} {bytes : ByteArray} {ret : Option FieldType} {stk : List Value} (hM : MX l y ws rm w ad (.ref (ad q) :: As) M v M') (hT : GoodIn Ts (wsV own index C y ws)) (hw9 : ws = Cond.code y bytes maxL ret :: ws') (hq : w.2.1 ≤ q ∧ q < w.1) (ho : w.2.2.2.2 ad M q = (ci, fs)) (hc : vwCl[ci]? = some (C, T, N)) (hrc : rm.cells = 0 ∧ rm.slots = 0)
    (hd : y.cls = C ∧ y.cls ≠ "java/lang/invoke/MethodHandle" ∧ y.cls ≠ "java/lang/invoke/VarHandle" ∧ (parseMethodDescriptor y.desc).map (fun d => d.parameters.length) = some n) (hn : As.length = n) (hR : rm.frames + 1 ≤ R.frames ∧ 8 + (maxL + 11) + rm.locals ≤ R.locals) (hst : stk = As.reverse ++ .ref (ad q) :: st) (hcat : (st.map fun v => v.category).sum ≤ 8) (d : decode cc pc = .ok (.invokevirtual index, 3)) (k : G M' (pc + 3) lv (v.toList ++ st)) : G M pc lv stk := by
  obtain ⟨p, e, s, m, args, below, meth, c, D, cI, cZ, A, Q, hx, hb, hml, hown, hts, hK, hA, hsz, hw, hend, rfl⟩ := cx
  intro H locs ls hP hS hl
  have hcw := cwV (R := R) (s := s) (args := args) (own := own) (C := C) (index := index) (bytes := bytes) (maxL := maxL) (ret := ret) (rm := rm) (mc := 0) (ms := 0) n hts hT hw9 hrc.1 hrc.2 hd hR
  refine ax_call hA hsz hS (va_runV (As := As) (rest := st) (b := ad q) ⟨hx, hb, hml, hown, hts⟩ (hM D cI cZ H.size) hcw ⟨mx_blind, va_recv hK hP hc (q0 := q) (by rw [cells_get hq.2, wcell_obj hq.1, ho]), fun U hU hW => ⟨rfl, by rw [hU], by rw [hU]; exact hP, va_K.moved hW.alike hK, (hA.D M).weaken (fun _ _ _ _ => trivial)⟩⟩ rfl hn hl.1 hst (lv_room hcat) d ⟨Nat.zero_le _, Nat.zero_le _⟩) (fun H1 locs1 hP1 hS1 => k H1 locs1 ls hP1 hS1 hl)
theorem ax_callS (cx : Cx w ad own cc nL Ts R l rt Post G) {y : MethodName} {ws ws' : List Cond} {rm : Room} {As : List Value} {M' : Mem} {v : Option Value} {index n maxL : Nat} {bytes : ByteArray} {ret : Option FieldType} {stk : List Value} (hM : MX l y ws rm w ad As M v M') (hT : GoodIn Ts (va_wsS own index y ws)) (hw9 : ws = Cond.code y bytes maxL ret :: ws') (hrc : rm.cells = 0 ∧ rm.slots = 0)
    (hd : y.cls ≠ "java/lang/invoke/MethodHandle" ∧ y.cls ≠ "java/lang/invoke/VarHandle" ∧ (parseMethodDescriptor y.desc).map (fun d => d.parameters.length) = some n) (hn : As.length = n) (hR : rm.frames + 1 ≤ R.frames ∧ 8 + (maxL + 11) + rm.locals ≤ R.locals) (hst : stk = As.reverse ++ st) (hcat : (st.map fun v => v.category).sum ≤ 8) (d : decode cc pc = .ok (.invokestatic index, 3)) (k : G M' (pc + 3) lv (v.toList ++ st)) : G M pc lv stk := by
  obtain ⟨p, e, s, m, args, below, meth, c, D, cI, cZ, A, Q, hx, hb, hml, hown, hts, hK, hA, hsz, hw, hend, rfl⟩ := cx
  intro H locs ls hP hS hl
  have hcw := va_cwS (R := R) (s := s) (args := args) (own := own) (index := index) (bytes := bytes) (maxL := maxL) (ret := ret) (rm := rm) (mc := 0) (ms := 0) n hts hT hw9 hrc.1 hrc.2 hd hR
  refine ax_call hA hsz hS (va_runS (As := As) (rest := st) ⟨hx, hb, hml, hown, hts⟩ (hM D cI cZ H.size) hcw ⟨mx_blind, fun U hU hW => ⟨rfl, by rw [hU], by rw [hU]; exact hP, va_K.moved hW.alike hK, (hA.D M).weaken (fun _ _ _ _ => trivial)⟩⟩ rfl hn hl.1 hst (lv_room hcat) d ⟨Nat.zero_le _, Nat.zero_le _⟩) (fun H1 locs1 hP1 hS1 => k H1 locs1 ls hP1 hS1 hl)
end CALLS
end
section
/-! the two worlds: the class's, the reference's; fuel -/
def FU : Nat := 1000000000000000000
theorem zlcmp_R (x y : Int64) : inR (zlcmp x y) := zi_inR _
def objC (ad : Nat → Nat) (M : Mem) (k : Nat) : Nat × List Value := match k - 21 with
  | 0 => (2, [.ref (ad 0), .ref (ad 1), .ref (ad 2), .ref (ad 3), .ref (ad 4), iV (M 100 0), iV (M 101 0)])
  | 1 => (4, [.ref (ad 5), .ref (ad 6)])
  | 2 => (3, [.ref (ad 7), iV (M 102 0), .ref (ad 8), iV (M 103 0), .ref (ad 9), .ref (ad 10), .ref (ad 11)])
  | 3 => (0, [.ref (ad 12), .ref (ad 13), .ref (ad 14), .ref (ad 15)])
  | 4 => (1, [.ref (ad 16), .ref (ad 17), .ref (ad 18), .ref (ad 19), .ref (ad 20), iV (M 104 0), iV (M 105 0)])
  | _ => (5, [.ref (ad 21), .ref (ad 22), .ref (ad 23), .ref (ad 24), .ref (ad 25)])
def lenC (k : Nat) : Nat := ([60, 60, 144, 60, 60, 36, 60, 6, 2304, 216, 36, 6, 36, 60, 36, 36, 36, 36, 8, 36, 36] : List Nat).getD k 0
def kzC (k : Nat) : Bool := ([false, false, false, false, false, false, false, false, false, false, false, false, false, false, false, false, false, false, true, true, false] : List Bool).getD k false
def wC : WD := (27, 21, lenC, kzC, objC)
theorem wC_ok : wOK wC := by
  refine ⟨by decide, by decide, fun k => ?_, fun ad M M' k h => ?_⟩
  · show lenC k < 2147483648
    rcases Nat.lt_or_ge k 21 with q | q
    · revert k; decide
    · rw [lenC, List.getD_eq_getElem?_getD, List.getElem?_eq_none (by exact q)]; decide
  · show objC ad M k = objC ad M' k
    have e := fun a ha => h a 0 ha
    unfold objC
    simp only [e 100 (by decide), e 101 (by decide), e 102 (by decide), e 103 (by decide), e 104 (by decide), e 105 (by decide)]
theorem putC_100 (ad : Nat → Nat) (M : Mem) (z : Int) : ∀ j, 21 ≤ j → j ≠ 21 → objC ad (wr M 100 0 z) j = objC ad M j := by
  intro j hj0 hj
  have e : ∀ a, a ≠ 100 → wr M 100 0 z a = M a := fun a ha => wr_row M z ha
  unfold objC
  split
  · first | rfl | (exfalso; omega)
  · first | rfl | (exfalso; omega)
  · first | (simp only [e 102 (by decide), e 103 (by decide)]; done) | rfl | (exfalso; omega)
  · first | rfl | (exfalso; omega)
  · first | (simp only [e 104 (by decide), e 105 (by decide)]; done) | rfl | (exfalso; omega)
  · first | rfl | (exfalso; omega)
theorem putC_101 (ad : Nat → Nat) (M : Mem) (z : Int) : ∀ j, 21 ≤ j → j ≠ 21 → objC ad (wr M 101 0 z) j = objC ad M j := by
  intro j hj0 hj
  have e : ∀ a, a ≠ 101 → wr M 101 0 z a = M a := fun a ha => wr_row M z ha
  unfold objC
  split
  · first | rfl | (exfalso; omega)
  · first | rfl | (exfalso; omega)
  · first | (simp only [e 102 (by decide), e 103 (by decide)]; done) | rfl | (exfalso; omega)
  · first | rfl | (exfalso; omega)
  · first | (simp only [e 104 (by decide), e 105 (by decide)]; done) | rfl | (exfalso; omega)
  · first | rfl | (exfalso; omega)
theorem putC_102 (ad : Nat → Nat) (M : Mem) (z : Int) : ∀ j, 21 ≤ j → j ≠ 23 → objC ad (wr M 102 0 z) j = objC ad M j := by
  intro j hj0 hj
  have e : ∀ a, a ≠ 102 → wr M 102 0 z a = M a := fun a ha => wr_row M z ha
  unfold objC
  split
  · first | (simp only [e 100 (by decide), e 101 (by decide)]; done) | rfl | (exfalso; omega)
  · first | rfl | (exfalso; omega)
  · first | rfl | (exfalso; omega)
  · first | rfl | (exfalso; omega)
  · first | (simp only [e 104 (by decide), e 105 (by decide)]; done) | rfl | (exfalso; omega)
  · first | rfl | (exfalso; omega)
theorem putC_103 (ad : Nat → Nat) (M : Mem) (z : Int) : ∀ j, 21 ≤ j → j ≠ 23 → objC ad (wr M 103 0 z) j = objC ad M j := by
  intro j hj0 hj
  have e : ∀ a, a ≠ 103 → wr M 103 0 z a = M a := fun a ha => wr_row M z ha
  unfold objC
  split
  · first | (simp only [e 100 (by decide), e 101 (by decide)]; done) | rfl | (exfalso; omega)
  · first | rfl | (exfalso; omega)
  · first | rfl | (exfalso; omega)
  · first | rfl | (exfalso; omega)
  · first | (simp only [e 104 (by decide), e 105 (by decide)]; done) | rfl | (exfalso; omega)
  · first | rfl | (exfalso; omega)
theorem putC_104 (ad : Nat → Nat) (M : Mem) (z : Int) : ∀ j, 21 ≤ j → j ≠ 25 → objC ad (wr M 104 0 z) j = objC ad M j := by
  intro j hj0 hj
  have e : ∀ a, a ≠ 104 → wr M 104 0 z a = M a := fun a ha => wr_row M z ha
  unfold objC
  split
  · first | (simp only [e 100 (by decide), e 101 (by decide)]; done) | rfl | (exfalso; omega)
  · first | rfl | (exfalso; omega)
  · first | (simp only [e 102 (by decide), e 103 (by decide)]; done) | rfl | (exfalso; omega)
  · first | rfl | (exfalso; omega)
  · first | rfl | (exfalso; omega)
  · first | rfl | (exfalso; omega)
theorem putC_105 (ad : Nat → Nat) (M : Mem) (z : Int) : ∀ j, 21 ≤ j → j ≠ 25 → objC ad (wr M 105 0 z) j = objC ad M j := by
  intro j hj0 hj
  have e : ∀ a, a ≠ 105 → wr M 105 0 z a = M a := fun a ha => wr_row M z ha
  unfold objC
  split
  · first | (simp only [e 100 (by decide), e 101 (by decide)]; done) | rfl | (exfalso; omega)
  · first | rfl | (exfalso; omega)
  · first | (simp only [e 102 (by decide), e 103 (by decide)]; done) | rfl | (exfalso; omega)
  · first | rfl | (exfalso; omega)
  · first | rfl | (exfalso; omega)
  · first | rfl | (exfalso; omega)
def objM (ad : Nat → Nat) (M : Mem) (k : Nat) : Nat × List Value := match k - 14 with
  | _ => (6, [iV (M 100 0), .ref (ad 0), .ref (ad 1), iV (M 101 0), .ref (ad 2), .ref (ad 3), .ref (ad 4), .ref (ad 5), iV (M 102 0), iV (M 103 0), .ref (ad 6), .ref (ad 7), .ref (ad 8), .ref (ad 9), .ref (ad 10), .ref (ad 11), .ref (ad 12), .ref (ad 13), iV (M 104 0)])
def lenM (k : Nat) : Nat := ([2, 60, 6, 36, 36, 8, 36, 7, 4608, 60, 36, 36, 36, 36] : List Nat).getD k 0
def kzM (k : Nat) : Bool := ([false, false, false, false, false, true, false, false, false, false, false, true, false, false] : List Bool).getD k false
def wM : WD := (15, 14, lenM, kzM, objM)
theorem wM_ok : wOK wM := by
  refine ⟨by decide, by decide, fun k => ?_, fun ad M M' k h => ?_⟩
  · show lenM k < 2147483648
    rcases Nat.lt_or_ge k 14 with q | q
    · revert k; decide
    · rw [lenM, List.getD_eq_getElem?_getD, List.getElem?_eq_none (by exact q)]; decide
  · show objM ad M k = objM ad M' k
    have e := fun a ha => h a 0 ha
    unfold objM
    simp only [e 100 (by decide), e 101 (by decide), e 102 (by decide), e 103 (by decide), e 104 (by decide)]
theorem putM_100 (ad : Nat → Nat) (M : Mem) (z : Int) : ∀ j, 14 ≤ j → j ≠ 14 → objM ad (wr M 100 0 z) j = objM ad M j := by
  intro j hj0 hj
  have e : ∀ a, a ≠ 100 → wr M 100 0 z a = M a := fun a ha => wr_row M z ha
  unfold objM
  split
  · first | rfl | (exfalso; omega)
theorem putM_101 (ad : Nat → Nat) (M : Mem) (z : Int) : ∀ j, 14 ≤ j → j ≠ 14 → objM ad (wr M 101 0 z) j = objM ad M j := by
  intro j hj0 hj
  have e : ∀ a, a ≠ 101 → wr M 101 0 z a = M a := fun a ha => wr_row M z ha
  unfold objM
  split
  · first | rfl | (exfalso; omega)
theorem putM_102 (ad : Nat → Nat) (M : Mem) (z : Int) : ∀ j, 14 ≤ j → j ≠ 14 → objM ad (wr M 102 0 z) j = objM ad M j := by
  intro j hj0 hj
  have e : ∀ a, a ≠ 102 → wr M 102 0 z a = M a := fun a ha => wr_row M z ha
  unfold objM
  split
  · first | rfl | (exfalso; omega)
theorem putM_103 (ad : Nat → Nat) (M : Mem) (z : Int) : ∀ j, 14 ≤ j → j ≠ 14 → objM ad (wr M 103 0 z) j = objM ad M j := by
  intro j hj0 hj
  have e : ∀ a, a ≠ 103 → wr M 103 0 z a = M a := fun a ha => wr_row M z ha
  unfold objM
  split
  · first | rfl | (exfalso; omega)
theorem putM_104 (ad : Nat → Nat) (M : Mem) (z : Int) : ∀ j, 14 ≤ j → j ≠ 14 → objM ad (wr M 104 0 z) j = objM ad M j := by
  intro j hj0 hj
  have e : ∀ a, a ≠ 104 → wr M 104 0 z a = M a := fun a ha => wr_row M z ha
  unfold objM
  split
  · first | rfl | (exfalso; omega)
end
