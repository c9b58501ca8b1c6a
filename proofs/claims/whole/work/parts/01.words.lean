-- ===== PART A: goes FIRST, ahead of the names: the tables' words, and 'selects' of the private methods out of them =====
/-- a private method of a class that the tables say can be made, by its rows of tables_1 -/
def lw_okq (q : MethodName × Nat) : Prop := (q.1.cls ≠ "java/lang/invoke/MethodHandle" ∧ q.1.cls ≠ "java/lang/invoke/VarHandle") ∧ Cond.instantiable q.1.cls q.2 ∈ tables_1 ∧ Cond.privateMethod q.1 ∈ tables_1 ∧ Cond.instanceMethod q.1 ∈ tables_1
theorem lw_p0 : lw_okq (⟨"LineMap$Names", "forget", "()V"⟩, 8) := ⟨⟨by decide +kernel, by decide +kernel⟩, List.mem_of_getElem? (i := 281) (by decide +kernel), List.mem_of_getElem? (i := 287) (by decide +kernel), List.mem_of_getElem? (i := 288) (by decide +kernel)⟩
theorem lw_p1 : lw_okq (⟨"LineMap", "refuse", "(I)I"⟩, 10) := ⟨⟨by decide +kernel, by decide +kernel⟩, List.mem_of_getElem? (i := 13) (by decide +kernel), List.mem_of_getElem? (i := 359) (by decide +kernel), List.mem_of_getElem? (i := 360) (by decide +kernel)⟩
theorem lw_p2 : lw_okq (⟨"LineMap", "accept", "(I)I"⟩, 10) := ⟨⟨by decide +kernel, by decide +kernel⟩, List.mem_of_getElem? (i := 13) (by decide +kernel), List.mem_of_getElem? (i := 371) (by decide +kernel), List.mem_of_getElem? (i := 372) (by decide +kernel)⟩
theorem lw_p3 : lw_okq (⟨"LineMap$Net", "join", "(II)V"⟩, 14) := ⟨⟨by decide +kernel, by decide +kernel⟩, List.mem_of_getElem? (i := 21) (by decide +kernel), List.mem_of_getElem? (i := 399) (by decide +kernel), List.mem_of_getElem? (i := 400) (by decide +kernel)⟩
theorem lw_p4 : lw_okq (⟨"LineMap$Net", "numberEdges", "()V"⟩, 14) := ⟨⟨by decide +kernel, by decide +kernel⟩, List.mem_of_getElem? (i := 21) (by decide +kernel), List.mem_of_getElem? (i := 403) (by decide +kernel), List.mem_of_getElem? (i := 404) (by decide +kernel)⟩
theorem lw_p5 : lw_okq (⟨"LineMap$Net", "addToRing", "(II)V"⟩, 14) := ⟨⟨by decide +kernel, by decide +kernel⟩, List.mem_of_getElem? (i := 21) (by decide +kernel), List.mem_of_getElem? (i := 413) (by decide +kernel), List.mem_of_getElem? (i := 414) (by decide +kernel)⟩
theorem lw_p6 : lw_okq (⟨"LineMap$Net", "comesBefore", "(III)Z"⟩, 14) := ⟨⟨by decide +kernel, by decide +kernel⟩, List.mem_of_getElem? (i := 21) (by decide +kernel), List.mem_of_getElem? (i := 417) (by decide +kernel), List.mem_of_getElem? (i := 418) (by decide +kernel)⟩
theorem lw_p7 : lw_okq (⟨"LineMap$Law", "findUnplaced", "()Z"⟩, 6) := ⟨⟨by decide +kernel, by decide +kernel⟩, List.mem_of_getElem? (i := 178) (by decide +kernel), List.mem_of_getElem? (i := 485) (by decide +kernel), List.mem_of_getElem? (i := 486) (by decide +kernel)⟩
theorem lw_p8 : lw_okq (⟨"LineMap$Law", "blame", "(III)Z"⟩, 6) := ⟨⟨by decide +kernel, by decide +kernel⟩, List.mem_of_getElem? (i := 178) (by decide +kernel), List.mem_of_getElem? (i := 490) (by decide +kernel), List.mem_of_getElem? (i := 491) (by decide +kernel)⟩
theorem lw_p9 : lw_okq (⟨"LineMap$Law", "findShared", "()Z"⟩, 6) := ⟨⟨by decide +kernel, by decide +kernel⟩, List.mem_of_getElem? (i := 178) (by decide +kernel), List.mem_of_getElem? (i := 494) (by decide +kernel), List.mem_of_getElem? (i := 495) (by decide +kernel)⟩
theorem lw_p10 : lw_okq (⟨"LineMap$Law", "findCrooked", "()Z"⟩, 6) := ⟨⟨by decide +kernel, by decide +kernel⟩, List.mem_of_getElem? (i := 178) (by decide +kernel), List.mem_of_getElem? (i := 502) (by decide +kernel), List.mem_of_getElem? (i := 503) (by decide +kernel)⟩
theorem lw_p11 : lw_okq (⟨"LineMap$Law", "findShort", "()Z"⟩, 6) := ⟨⟨by decide +kernel, by decide +kernel⟩, List.mem_of_getElem? (i := 178) (by decide +kernel), List.mem_of_getElem? (i := 510) (by decide +kernel), List.mem_of_getElem? (i := 511) (by decide +kernel)⟩
theorem lw_p12 : lw_okq (⟨"LineMap$Law", "findCovered", "()Z"⟩, 6) := ⟨⟨by decide +kernel, by decide +kernel⟩, List.mem_of_getElem? (i := 178) (by decide +kernel), List.mem_of_getElem? (i := 522) (by decide +kernel), List.mem_of_getElem? (i := 523) (by decide +kernel)⟩
theorem lw_p13 : lw_okq (⟨"LineMap$Law", "isOnEdge", "(II)Z"⟩, 6) := ⟨⟨by decide +kernel, by decide +kernel⟩, List.mem_of_getElem? (i := 178) (by decide +kernel), List.mem_of_getElem? (i := 526) (by decide +kernel), List.mem_of_getElem? (i := 527) (by decide +kernel)⟩
theorem lw_p14 : lw_okq (⟨"LineMap$Plan", "side", "(III)I"⟩, 5) := ⟨⟨by decide +kernel, by decide +kernel⟩, List.mem_of_getElem? (i := 112) (by decide +kernel), List.mem_of_getElem? (i := 534) (by decide +kernel), List.mem_of_getElem? (i := 535) (by decide +kernel)⟩
theorem lw_p15 : lw_okq (⟨"LineMap$Law", "findCrossing", "()Z"⟩, 6) := ⟨⟨by decide +kernel, by decide +kernel⟩, List.mem_of_getElem? (i := 178) (by decide +kernel), List.mem_of_getElem? (i := 544) (by decide +kernel), List.mem_of_getElem? (i := 545) (by decide +kernel)⟩
def lw_privs_1 : List (MethodName × Nat) := [(⟨"LineMap$Names", "forget", "()V"⟩, 8), (⟨"LineMap", "refuse", "(I)I"⟩, 10), (⟨"LineMap", "accept", "(I)I"⟩, 10), (⟨"LineMap$Net", "join", "(II)V"⟩, 14), (⟨"LineMap$Net", "numberEdges", "()V"⟩, 14), (⟨"LineMap$Net", "addToRing", "(II)V"⟩, 14), (⟨"LineMap$Net", "comesBefore", "(III)Z"⟩, 14), (⟨"LineMap$Law", "findUnplaced", "()Z"⟩, 6), (⟨"LineMap$Law", "blame", "(III)Z"⟩, 6), (⟨"LineMap$Law", "findShared", "()Z"⟩, 6), (⟨"LineMap$Law", "findCrooked", "()Z"⟩, 6), (⟨"LineMap$Law", "findShort", "()Z"⟩, 6), (⟨"LineMap$Law", "findCovered", "()Z"⟩, 6), (⟨"LineMap$Law", "isOnEdge", "(II)Z"⟩, 6), (⟨"LineMap$Plan", "side", "(III)I"⟩, 5), (⟨"LineMap$Law", "findCrossing", "()Z"⟩, 6)]
theorem lw_r1 : ∀ q ∈ lw_privs_1, lw_okq q := List.forall_mem_cons.mpr ⟨lw_p0, List.forall_mem_cons.mpr ⟨lw_p1, List.forall_mem_cons.mpr ⟨lw_p2, List.forall_mem_cons.mpr ⟨lw_p3, List.forall_mem_cons.mpr ⟨lw_p4, List.forall_mem_cons.mpr ⟨lw_p5, List.forall_mem_cons.mpr ⟨lw_p6, List.forall_mem_cons.mpr ⟨lw_p7, List.forall_mem_cons.mpr ⟨lw_p8, List.forall_mem_cons.mpr ⟨lw_p9, List.forall_mem_cons.mpr ⟨lw_p10, List.forall_mem_cons.mpr ⟨lw_p11, List.forall_mem_cons.mpr ⟨lw_p12, List.forall_mem_cons.mpr ⟨lw_p13, List.forall_mem_cons.mpr ⟨lw_p14, List.forall_mem_cons.mpr ⟨lw_p15, fun _ h => absurd h List.not_mem_nil⟩⟩⟩⟩⟩⟩⟩⟩⟩⟩⟩⟩⟩⟩⟩⟩
theorem lw_p16 : lw_okq (⟨"LineMap$Law", "findTwisted", "()Z"⟩, 6) := ⟨⟨by decide +kernel, by decide +kernel⟩, List.mem_of_getElem? (i := 178) (by decide +kernel), List.mem_of_getElem? (i := 552) (by decide +kernel), List.mem_of_getElem? (i := 553) (by decide +kernel)⟩
theorem lw_p17 : lw_okq (⟨"LineMap$Law", "isRingTrue", "(I)Z"⟩, 6) := ⟨⟨by decide +kernel, by decide +kernel⟩, List.mem_of_getElem? (i := 178) (by decide +kernel), List.mem_of_getElem? (i := 556) (by decide +kernel), List.mem_of_getElem? (i := 557) (by decide +kernel)⟩
theorem lw_p18 : lw_okq (⟨"LineMap$Price", "bendAt", "(II)I"⟩, 3) := ⟨⟨by decide +kernel, by decide +kernel⟩, List.mem_of_getElem? (i := 206) (by decide +kernel), List.mem_of_getElem? (i := 573) (by decide +kernel), List.mem_of_getElem? (i := 574) (by decide +kernel)⟩
theorem lw_p19 : lw_okq (⟨"LineMap$Price", "turnOf", "(I)I"⟩, 3) := ⟨⟨by decide +kernel, by decide +kernel⟩, List.mem_of_getElem? (i := 206) (by decide +kernel), List.mem_of_getElem? (i := 590) (by decide +kernel), List.mem_of_getElem? (i := 591) (by decide +kernel)⟩
theorem lw_p20 : lw_okq (⟨"LineMap$Search", "lookRound", "(II)V"⟩, 15) := ⟨⟨by decide +kernel, by decide +kernel⟩, List.mem_of_getElem? (i := 222) (by decide +kernel), List.mem_of_getElem? (i := 614) (by decide +kernel), List.mem_of_getElem? (i := 615) (by decide +kernel)⟩
theorem lw_p21 : lw_okq (⟨"LineMap$Search", "arrange", "()V"⟩, 15) := ⟨⟨by decide +kernel, by decide +kernel⟩, List.mem_of_getElem? (i := 222) (by decide +kernel), List.mem_of_getElem? (i := 628) (by decide +kernel), List.mem_of_getElem? (i := 629) (by decide +kernel)⟩
theorem lw_p22 : lw_okq (⟨"LineMap$Search", "urgencyOf", "(I)I"⟩, 15) := ⟨⟨by decide +kernel, by decide +kernel⟩, List.mem_of_getElem? (i := 222) (by decide +kernel), List.mem_of_getElem? (i := 632) (by decide +kernel), List.mem_of_getElem? (i := 633) (by decide +kernel)⟩
theorem lw_p23 : lw_okq (⟨"LineMap$Search", "edgesToOrdered", "(I)I"⟩, 15) := ⟨⟨by decide +kernel, by decide +kernel⟩, List.mem_of_getElem? (i := 222) (by decide +kernel), List.mem_of_getElem? (i := 636) (by decide +kernel), List.mem_of_getElem? (i := 637) (by decide +kernel)⟩
theorem lw_p24 : lw_okq (⟨"LineMap$Search", "countRest", "()V"⟩, 15) := ⟨⟨by decide +kernel, by decide +kernel⟩, List.mem_of_getElem? (i := 222) (by decide +kernel), List.mem_of_getElem? (i := 640) (by decide +kernel), List.mem_of_getElem? (i := 641) (by decide +kernel)⟩
theorem lw_p25 : lw_okq (⟨"LineMap$Search", "descend", "(III)Z"⟩, 15) := ⟨⟨by decide +kernel, by decide +kernel⟩, List.mem_of_getElem? (i := 222) (by decide +kernel), List.mem_of_getElem? (i := 645) (by decide +kernel), List.mem_of_getElem? (i := 646) (by decide +kernel)⟩
theorem lw_p26 : lw_okq (⟨"LineMap$Search", "keep", "(I)Z"⟩, 15) := ⟨⟨by decide +kernel, by decide +kernel⟩, List.mem_of_getElem? (i := 222) (by decide +kernel), List.mem_of_getElem? (i := 649) (by decide +kernel), List.mem_of_getElem? (i := 650) (by decide +kernel)⟩
theorem lw_p27 : lw_okq (⟨"LineMap$Search", "openPoints", "(I)I"⟩, 15) := ⟨⟨by decide +kernel, by decide +kernel⟩, List.mem_of_getElem? (i := 222) (by decide +kernel), List.mem_of_getElem? (i := 653) (by decide +kernel), List.mem_of_getElem? (i := 654) (by decide +kernel)⟩
theorem lw_p28 : lw_okq (⟨"LineMap$Search", "flushPoints", "()I"⟩, 15) := ⟨⟨by decide +kernel, by decide +kernel⟩, List.mem_of_getElem? (i := 222) (by decide +kernel), List.mem_of_getElem? (i := 658) (by decide +kernel), List.mem_of_getElem? (i := 659) (by decide +kernel)⟩
theorem lw_p29 : lw_okq (⟨"LineMap$Price", "bendsAround", "(I)I"⟩, 3) := ⟨⟨by decide +kernel, by decide +kernel⟩, List.mem_of_getElem? (i := 206) (by decide +kernel), List.mem_of_getElem? (i := 669) (by decide +kernel), List.mem_of_getElem? (i := 670) (by decide +kernel)⟩
theorem lw_p30 : lw_okq (⟨"LineMap$Price", "isBendPlaced", "([II)Z"⟩, 3) := ⟨⟨by decide +kernel, by decide +kernel⟩, List.mem_of_getElem? (i := 206) (by decide +kernel), List.mem_of_getElem? (i := 675) (by decide +kernel), List.mem_of_getElem? (i := 676) (by decide +kernel)⟩
theorem lw_p31 : lw_okq (⟨"LineMap$Search", "passedPoints", "(III)I"⟩, 15) := ⟨⟨by decide +kernel, by decide +kernel⟩, List.mem_of_getElem? (i := 222) (by decide +kernel), List.mem_of_getElem? (i := 679) (by decide +kernel), List.mem_of_getElem? (i := 680) (by decide +kernel)⟩
def lw_privs_2 : List (MethodName × Nat) := [(⟨"LineMap$Law", "findTwisted", "()Z"⟩, 6), (⟨"LineMap$Law", "isRingTrue", "(I)Z"⟩, 6), (⟨"LineMap$Price", "bendAt", "(II)I"⟩, 3), (⟨"LineMap$Price", "turnOf", "(I)I"⟩, 3), (⟨"LineMap$Search", "lookRound", "(II)V"⟩, 15), (⟨"LineMap$Search", "arrange", "()V"⟩, 15), (⟨"LineMap$Search", "urgencyOf", "(I)I"⟩, 15), (⟨"LineMap$Search", "edgesToOrdered", "(I)I"⟩, 15), (⟨"LineMap$Search", "countRest", "()V"⟩, 15), (⟨"LineMap$Search", "descend", "(III)Z"⟩, 15), (⟨"LineMap$Search", "keep", "(I)Z"⟩, 15), (⟨"LineMap$Search", "openPoints", "(I)I"⟩, 15), (⟨"LineMap$Search", "flushPoints", "()I"⟩, 15), (⟨"LineMap$Price", "bendsAround", "(I)I"⟩, 3), (⟨"LineMap$Price", "isBendPlaced", "([II)Z"⟩, 3), (⟨"LineMap$Search", "passedPoints", "(III)I"⟩, 15)]
theorem lw_r2 : ∀ q ∈ lw_privs_2, lw_okq q := List.forall_mem_cons.mpr ⟨lw_p16, List.forall_mem_cons.mpr ⟨lw_p17, List.forall_mem_cons.mpr ⟨lw_p18, List.forall_mem_cons.mpr ⟨lw_p19, List.forall_mem_cons.mpr ⟨lw_p20, List.forall_mem_cons.mpr ⟨lw_p21, List.forall_mem_cons.mpr ⟨lw_p22, List.forall_mem_cons.mpr ⟨lw_p23, List.forall_mem_cons.mpr ⟨lw_p24, List.forall_mem_cons.mpr ⟨lw_p25, List.forall_mem_cons.mpr ⟨lw_p26, List.forall_mem_cons.mpr ⟨lw_p27, List.forall_mem_cons.mpr ⟨lw_p28, List.forall_mem_cons.mpr ⟨lw_p29, List.forall_mem_cons.mpr ⟨lw_p30, List.forall_mem_cons.mpr ⟨lw_p31, fun _ h => absurd h List.not_mem_nil⟩⟩⟩⟩⟩⟩⟩⟩⟩⟩⟩⟩⟩⟩⟩⟩
theorem lw_p32 : lw_okq (⟨"LineMap$Law", "isDrawn", "(I)Z"⟩, 6) := ⟨⟨by decide +kernel, by decide +kernel⟩, List.mem_of_getElem? (i := 178) (by decide +kernel), List.mem_of_getElem? (i := 688) (by decide +kernel), List.mem_of_getElem? (i := 689) (by decide +kernel)⟩
theorem lw_p33 : lw_okq (⟨"LineMap$Search", "settle", "(II)V"⟩, 15) := ⟨⟨by decide +kernel, by decide +kernel⟩, List.mem_of_getElem? (i := 222) (by decide +kernel), List.mem_of_getElem? (i := 696) (by decide +kernel), List.mem_of_getElem? (i := 697) (by decide +kernel)⟩
theorem lw_p34 : lw_okq (⟨"LineMap", "makeBestChange", "()Z"⟩, 10) := ⟨⟨by decide +kernel, by decide +kernel⟩, List.mem_of_getElem? (i := 13) (by decide +kernel), List.mem_of_getElem? (i := 704) (by decide +kernel), List.mem_of_getElem? (i := 705) (by decide +kernel)⟩
theorem lw_p35 : lw_okq (⟨"LineMap$Law", "isAlone", "(I)Z"⟩, 6) := ⟨⟨by decide +kernel, by decide +kernel⟩, List.mem_of_getElem? (i := 178) (by decide +kernel), List.mem_of_getElem? (i := 717) (by decide +kernel), List.mem_of_getElem? (i := 718) (by decide +kernel)⟩
theorem lw_p36 : lw_okq (⟨"LineMap$Law", "isOffEdges", "(I)Z"⟩, 6) := ⟨⟨by decide +kernel, by decide +kernel⟩, List.mem_of_getElem? (i := 178) (by decide +kernel), List.mem_of_getElem? (i := 721) (by decide +kernel), List.mem_of_getElem? (i := 722) (by decide +kernel)⟩
theorem lw_p37 : lw_okq (⟨"LineMap$Law", "areEdgesClear", "(I)Z"⟩, 6) := ⟨⟨by decide +kernel, by decide +kernel⟩, List.mem_of_getElem? (i := 178) (by decide +kernel), List.mem_of_getElem? (i := 725) (by decide +kernel), List.mem_of_getElem? (i := 726) (by decide +kernel)⟩
theorem lw_p38 : lw_okq (⟨"LineMap$Law", "isEdgeClear", "(II)Z"⟩, 6) := ⟨⟨by decide +kernel, by decide +kernel⟩, List.mem_of_getElem? (i := 178) (by decide +kernel), List.mem_of_getElem? (i := 729) (by decide +kernel), List.mem_of_getElem? (i := 730) (by decide +kernel)⟩
theorem lw_p39 : lw_okq (⟨"LineMap$Names", "layFreely", "(I)Z"⟩, 8) := ⟨⟨by decide +kernel, by decide +kernel⟩, List.mem_of_getElem? (i := 281) (by decide +kernel), List.mem_of_getElem? (i := 747) (by decide +kernel), List.mem_of_getElem? (i := 748) (by decide +kernel)⟩
theorem lw_p40 : lw_okq (⟨"LineMap$Names", "lay", "(II)V"⟩, 8) := ⟨⟨by decide +kernel, by decide +kernel⟩, List.mem_of_getElem? (i := 281) (by decide +kernel), List.mem_of_getElem? (i := 751) (by decide +kernel), List.mem_of_getElem? (i := 752) (by decide +kernel)⟩
theorem lw_p41 : lw_okq (⟨"LineMap$Names", "obstacle", "(I)I"⟩, 8) := ⟨⟨by decide +kernel, by decide +kernel⟩, List.mem_of_getElem? (i := 281) (by decide +kernel), List.mem_of_getElem? (i := 755) (by decide +kernel), List.mem_of_getElem? (i := 756) (by decide +kernel)⟩
theorem lw_p42 : lw_okq (⟨"LineMap$Names", "isUnder", "(III)Z"⟩, 8) := ⟨⟨by decide +kernel, by decide +kernel⟩, List.mem_of_getElem? (i := 281) (by decide +kernel), List.mem_of_getElem? (i := 759) (by decide +kernel), List.mem_of_getElem? (i := 760) (by decide +kernel)⟩
theorem lw_p43 : lw_okq (⟨"LineMap$Names", "isOnEdge", "(III)Z"⟩, 8) := ⟨⟨by decide +kernel, by decide +kernel⟩, List.mem_of_getElem? (i := 281) (by decide +kernel), List.mem_of_getElem? (i := 763) (by decide +kernel), List.mem_of_getElem? (i := 764) (by decide +kernel)⟩
theorem lw_p44 : lw_okq (⟨"LineMapModel", "ends", "(I)I"⟩, 32) := ⟨⟨by decide +kernel, by decide +kernel⟩, List.mem_of_getElem? (i := 799) (by decide +kernel), List.mem_of_getElem? (i := 909) (by decide +kernel), List.mem_of_getElem? (i := 910) (by decide +kernel)⟩
theorem lw_p45 : lw_okq (⟨"LineMapModel", "isStation", "(I)Z"⟩, 32) := ⟨⟨by decide +kernel, by decide +kernel⟩, List.mem_of_getElem? (i := 799) (by decide +kernel), List.mem_of_getElem? (i := 921) (by decide +kernel), List.mem_of_getElem? (i := 922) (by decide +kernel)⟩
theorem lw_p46 : lw_okq (⟨"LineMapModel", "finds", "()V"⟩, 32) := ⟨⟨by decide +kernel, by decide +kernel⟩, List.mem_of_getElem? (i := 799) (by decide +kernel), List.mem_of_getElem? (i := 925) (by decide +kernel), List.mem_of_getElem? (i := 926) (by decide +kernel)⟩
theorem lw_p47 : lw_okq (⟨"LineMapModel", "areLed", "(II)Z"⟩, 32) := ⟨⟨by decide +kernel, by decide +kernel⟩, List.mem_of_getElem? (i := 799) (by decide +kernel), List.mem_of_getElem? (i := 929) (by decide +kernel), List.mem_of_getElem? (i := 930) (by decide +kernel)⟩
def lw_privs_3 : List (MethodName × Nat) := [(⟨"LineMap$Law", "isDrawn", "(I)Z"⟩, 6), (⟨"LineMap$Search", "settle", "(II)V"⟩, 15), (⟨"LineMap", "makeBestChange", "()Z"⟩, 10), (⟨"LineMap$Law", "isAlone", "(I)Z"⟩, 6), (⟨"LineMap$Law", "isOffEdges", "(I)Z"⟩, 6), (⟨"LineMap$Law", "areEdgesClear", "(I)Z"⟩, 6), (⟨"LineMap$Law", "isEdgeClear", "(II)Z"⟩, 6), (⟨"LineMap$Names", "layFreely", "(I)Z"⟩, 8), (⟨"LineMap$Names", "lay", "(II)V"⟩, 8), (⟨"LineMap$Names", "obstacle", "(I)I"⟩, 8), (⟨"LineMap$Names", "isUnder", "(III)Z"⟩, 8), (⟨"LineMap$Names", "isOnEdge", "(III)Z"⟩, 8), (⟨"LineMapModel", "ends", "(I)I"⟩, 32), (⟨"LineMapModel", "isStation", "(I)Z"⟩, 32), (⟨"LineMapModel", "finds", "()V"⟩, 32), (⟨"LineMapModel", "areLed", "(II)Z"⟩, 32)]
theorem lw_r3 : ∀ q ∈ lw_privs_3, lw_okq q := List.forall_mem_cons.mpr ⟨lw_p32, List.forall_mem_cons.mpr ⟨lw_p33, List.forall_mem_cons.mpr ⟨lw_p34, List.forall_mem_cons.mpr ⟨lw_p35, List.forall_mem_cons.mpr ⟨lw_p36, List.forall_mem_cons.mpr ⟨lw_p37, List.forall_mem_cons.mpr ⟨lw_p38, List.forall_mem_cons.mpr ⟨lw_p39, List.forall_mem_cons.mpr ⟨lw_p40, List.forall_mem_cons.mpr ⟨lw_p41, List.forall_mem_cons.mpr ⟨lw_p42, List.forall_mem_cons.mpr ⟨lw_p43, List.forall_mem_cons.mpr ⟨lw_p44, List.forall_mem_cons.mpr ⟨lw_p45, List.forall_mem_cons.mpr ⟨lw_p46, List.forall_mem_cons.mpr ⟨lw_p47, fun _ h => absurd h List.not_mem_nil⟩⟩⟩⟩⟩⟩⟩⟩⟩⟩⟩⟩⟩⟩⟩⟩
theorem lw_p48 : lw_okq (⟨"LineMapModel", "trueDirection", "(II)I"⟩, 32) := ⟨⟨by decide +kernel, by decide +kernel⟩, List.mem_of_getElem? (i := 799) (by decide +kernel), List.mem_of_getElem? (i := 941) (by decide +kernel), List.mem_of_getElem? (i := 942) (by decide +kernel)⟩
theorem lw_p49 : lw_okq (⟨"LineMapModel", "rounds", "(I)V"⟩, 32) := ⟨⟨by decide +kernel, by decide +kernel⟩, List.mem_of_getElem? (i := 799) (by decide +kernel), List.mem_of_getElem? (i := 955) (by decide +kernel), List.mem_of_getElem? (i := 956) (by decide +kernel)⟩
theorem lw_p50 : lw_okq (⟨"LineMapModel", "isAhead", "(III)Z"⟩, 32) := ⟨⟨by decide +kernel, by decide +kernel⟩, List.mem_of_getElem? (i := 799) (by decide +kernel), List.mem_of_getElem? (i := 959) (by decide +kernel), List.mem_of_getElem? (i := 960) (by decide +kernel)⟩
theorem lw_p51 : lw_okq (⟨"LineMapModel", "half", "(II)I"⟩, 32) := ⟨⟨by decide +kernel, by decide +kernel⟩, List.mem_of_getElem? (i := 799) (by decide +kernel), List.mem_of_getElem? (i := 963) (by decide +kernel), List.mem_of_getElem? (i := 964) (by decide +kernel)⟩
theorem lw_p52 : lw_okq (⟨"LineMapModel", "whyNot", "()I"⟩, 32) := ⟨⟨by decide +kernel, by decide +kernel⟩, List.mem_of_getElem? (i := 799) (by decide +kernel), List.mem_of_getElem? (i := 995) (by decide +kernel), List.mem_of_getElem? (i := 996) (by decide +kernel)⟩
theorem lw_p53 : lw_okq (⟨"LineMapModel", "bars", "(III)I"⟩, 32) := ⟨⟨by decide +kernel, by decide +kernel⟩, List.mem_of_getElem? (i := 799) (by decide +kernel), List.mem_of_getElem? (i := 999) (by decide +kernel), List.mem_of_getElem? (i := 1000) (by decide +kernel)⟩
theorem lw_p54 : lw_okq (⟨"LineMapModel", "isStraight", "(II)Z"⟩, 32) := ⟨⟨by decide +kernel, by decide +kernel⟩, List.mem_of_getElem? (i := 799) (by decide +kernel), List.mem_of_getElem? (i := 1003) (by decide +kernel), List.mem_of_getElem? (i := 1004) (by decide +kernel)⟩
theorem lw_p55 : lw_okq (⟨"LineMapModel", "x", "(I)I"⟩, 32) := ⟨⟨by decide +kernel, by decide +kernel⟩, List.mem_of_getElem? (i := 799) (by decide +kernel), List.mem_of_getElem? (i := 1007) (by decide +kernel), List.mem_of_getElem? (i := 1008) (by decide +kernel)⟩
theorem lw_p56 : lw_okq (⟨"LineMapModel", "y", "(I)I"⟩, 32) := ⟨⟨by decide +kernel, by decide +kernel⟩, List.mem_of_getElem? (i := 799) (by decide +kernel), List.mem_of_getElem? (i := 1011) (by decide +kernel), List.mem_of_getElem? (i := 1012) (by decide +kernel)⟩
theorem lw_p57 : lw_okq (⟨"LineMapModel", "length", "(II)I"⟩, 32) := ⟨⟨by decide +kernel, by decide +kernel⟩, List.mem_of_getElem? (i := 799) (by decide +kernel), List.mem_of_getElem? (i := 1015) (by decide +kernel), List.mem_of_getElem? (i := 1016) (by decide +kernel)⟩
theorem lw_p58 : lw_okq (⟨"LineMapModel", "lies", "(III)Z"⟩, 32) := ⟨⟨by decide +kernel, by decide +kernel⟩, List.mem_of_getElem? (i := 799) (by decide +kernel), List.mem_of_getElem? (i := 1019) (by decide +kernel), List.mem_of_getElem? (i := 1020) (by decide +kernel)⟩
theorem lw_p59 : lw_okq (⟨"LineMapModel", "cross", "(III)I"⟩, 32) := ⟨⟨by decide +kernel, by decide +kernel⟩, List.mem_of_getElem? (i := 799) (by decide +kernel), List.mem_of_getElem? (i := 1023) (by decide +kernel), List.mem_of_getElem? (i := 1024) (by decide +kernel)⟩
theorem lw_p60 : lw_okq (⟨"LineMapModel", "meet", "(IIII)Z"⟩, 32) := ⟨⟨by decide +kernel, by decide +kernel⟩, List.mem_of_getElem? (i := 799) (by decide +kernel), List.mem_of_getElem? (i := 1030) (by decide +kernel), List.mem_of_getElem? (i := 1031) (by decide +kernel)⟩
theorem lw_p61 : lw_okq (⟨"LineMapModel", "direction", "(II)I"⟩, 32) := ⟨⟨by decide +kernel, by decide +kernel⟩, List.mem_of_getElem? (i := 799) (by decide +kernel), List.mem_of_getElem? (i := 1034) (by decide +kernel), List.mem_of_getElem? (i := 1035) (by decide +kernel)⟩
theorem lw_p62 : lw_okq (⟨"LineMapModel", "isTrueRound", "(I)Z"⟩, 32) := ⟨⟨by decide +kernel, by decide +kernel⟩, List.mem_of_getElem? (i := 799) (by decide +kernel), List.mem_of_getElem? (i := 1041) (by decide +kernel), List.mem_of_getElem? (i := 1042) (by decide +kernel)⟩
theorem lw_p63 : lw_okq (⟨"LineMapModel", "costOf", "()I"⟩, 32) := ⟨⟨by decide +kernel, by decide +kernel⟩, List.mem_of_getElem? (i := 799) (by decide +kernel), List.mem_of_getElem? (i := 1049) (by decide +kernel), List.mem_of_getElem? (i := 1050) (by decide +kernel)⟩
def lw_privs_4 : List (MethodName × Nat) := [(⟨"LineMapModel", "trueDirection", "(II)I"⟩, 32), (⟨"LineMapModel", "rounds", "(I)V"⟩, 32), (⟨"LineMapModel", "isAhead", "(III)Z"⟩, 32), (⟨"LineMapModel", "half", "(II)I"⟩, 32), (⟨"LineMapModel", "whyNot", "()I"⟩, 32), (⟨"LineMapModel", "bars", "(III)I"⟩, 32), (⟨"LineMapModel", "isStraight", "(II)Z"⟩, 32), (⟨"LineMapModel", "x", "(I)I"⟩, 32), (⟨"LineMapModel", "y", "(I)I"⟩, 32), (⟨"LineMapModel", "length", "(II)I"⟩, 32), (⟨"LineMapModel", "lies", "(III)Z"⟩, 32), (⟨"LineMapModel", "cross", "(III)I"⟩, 32), (⟨"LineMapModel", "meet", "(IIII)Z"⟩, 32), (⟨"LineMapModel", "direction", "(II)I"⟩, 32), (⟨"LineMapModel", "isTrueRound", "(I)Z"⟩, 32), (⟨"LineMapModel", "costOf", "()I"⟩, 32)]
theorem lw_r4 : ∀ q ∈ lw_privs_4, lw_okq q := List.forall_mem_cons.mpr ⟨lw_p48, List.forall_mem_cons.mpr ⟨lw_p49, List.forall_mem_cons.mpr ⟨lw_p50, List.forall_mem_cons.mpr ⟨lw_p51, List.forall_mem_cons.mpr ⟨lw_p52, List.forall_mem_cons.mpr ⟨lw_p53, List.forall_mem_cons.mpr ⟨lw_p54, List.forall_mem_cons.mpr ⟨lw_p55, List.forall_mem_cons.mpr ⟨lw_p56, List.forall_mem_cons.mpr ⟨lw_p57, List.forall_mem_cons.mpr ⟨lw_p58, List.forall_mem_cons.mpr ⟨lw_p59, List.forall_mem_cons.mpr ⟨lw_p60, List.forall_mem_cons.mpr ⟨lw_p61, List.forall_mem_cons.mpr ⟨lw_p62, List.forall_mem_cons.mpr ⟨lw_p63, fun _ h => absurd h List.not_mem_nil⟩⟩⟩⟩⟩⟩⟩⟩⟩⟩⟩⟩⟩⟩⟩⟩
theorem lw_p64 : lw_okq (⟨"LineMapModel", "bends", "()I"⟩, 32) := ⟨⟨by decide +kernel, by decide +kernel⟩, List.mem_of_getElem? (i := 799) (by decide +kernel), List.mem_of_getElem? (i := 1053) (by decide +kernel), List.mem_of_getElem? (i := 1054) (by decide +kernel)⟩
theorem lw_p65 : lw_okq (⟨"LineMapModel", "lengths", "()I"⟩, 32) := ⟨⟨by decide +kernel, by decide +kernel⟩, List.mem_of_getElem? (i := 799) (by decide +kernel), List.mem_of_getElem? (i := 1060) (by decide +kernel), List.mem_of_getElem? (i := 1061) (by decide +kernel)⟩
theorem lw_p66 : lw_okq (⟨"LineMapModel", "turns", "()I"⟩, 32) := ⟨⟨by decide +kernel, by decide +kernel⟩, List.mem_of_getElem? (i := 799) (by decide +kernel), List.mem_of_getElem? (i := 1064) (by decide +kernel), List.mem_of_getElem? (i := 1065) (by decide +kernel)⟩
theorem lw_p67 : lw_okq (⟨"LineMapModel", "begins", "(I)V"⟩, 32) := ⟨⟨by decide +kernel, by decide +kernel⟩, List.mem_of_getElem? (i := 799) (by decide +kernel), List.mem_of_getElem? (i := 1072) (by decide +kernel), List.mem_of_getElem? (i := 1073) (by decide +kernel)⟩
theorem lw_p68 : lw_okq (⟨"LineMapModel", "steps", "(I)Z"⟩, 32) := ⟨⟨by decide +kernel, by decide +kernel⟩, List.mem_of_getElem? (i := 799) (by decide +kernel), List.mem_of_getElem? (i := 1076) (by decide +kernel), List.mem_of_getElem? (i := 1077) (by decide +kernel)⟩
theorem lw_p69 : lw_okq (⟨"LineMapModel", "mayBe", "(I)Z"⟩, 32) := ⟨⟨by decide +kernel, by decide +kernel⟩, List.mem_of_getElem? (i := 799) (by decide +kernel), List.mem_of_getElem? (i := 1080) (by decide +kernel), List.mem_of_getElem? (i := 1081) (by decide +kernel)⟩
theorem lw_p70 : lw_okq (⟨"LineMapModel", "costTo", "(I)I"⟩, 32) := ⟨⟨by decide +kernel, by decide +kernel⟩, List.mem_of_getElem? (i := 799) (by decide +kernel), List.mem_of_getElem? (i := 1084) (by decide +kernel), List.mem_of_getElem? (i := 1085) (by decide +kernel)⟩
theorem lw_p71 : lw_okq (⟨"LineMapModel", "changes", "()Z"⟩, 32) := ⟨⟨by decide +kernel, by decide +kernel⟩, List.mem_of_getElem? (i := 799) (by decide +kernel), List.mem_of_getElem? (i := 1092) (by decide +kernel), List.mem_of_getElem? (i := 1093) (by decide +kernel)⟩
theorem lw_p72 : lw_okq (⟨"LineMapModel", "onPlace", "(II)I"⟩, 32) := ⟨⟨by decide +kernel, by decide +kernel⟩, List.mem_of_getElem? (i := 799) (by decide +kernel), List.mem_of_getElem? (i := 1104) (by decide +kernel), List.mem_of_getElem? (i := 1105) (by decide +kernel)⟩
theorem lw_p73 : lw_okq (⟨"LineMapModel", "nameX", "(II)I"⟩, 32) := ⟨⟨by decide +kernel, by decide +kernel⟩, List.mem_of_getElem? (i := 799) (by decide +kernel), List.mem_of_getElem? (i := 1108) (by decide +kernel), List.mem_of_getElem? (i := 1109) (by decide +kernel)⟩
theorem lw_p74 : lw_okq (⟨"LineMapModel", "nameY", "(II)I"⟩, 32) := ⟨⟨by decide +kernel, by decide +kernel⟩, List.mem_of_getElem? (i := 799) (by decide +kernel), List.mem_of_getElem? (i := 1112) (by decide +kernel), List.mem_of_getElem? (i := 1113) (by decide +kernel)⟩
theorem lw_p75 : lw_okq (⟨"LineMapModel", "isOnStation", "(III)Z"⟩, 32) := ⟨⟨by decide +kernel, by decide +kernel⟩, List.mem_of_getElem? (i := 799) (by decide +kernel), List.mem_of_getElem? (i := 1116) (by decide +kernel), List.mem_of_getElem? (i := 1117) (by decide +kernel)⟩
theorem lw_p76 : lw_okq (⟨"LineMapModel", "isOnName", "(III)Z"⟩, 32) := ⟨⟨by decide +kernel, by decide +kernel⟩, List.mem_of_getElem? (i := 799) (by decide +kernel), List.mem_of_getElem? (i := 1123) (by decide +kernel), List.mem_of_getElem? (i := 1124) (by decide +kernel)⟩
theorem lw_p77 : lw_okq (⟨"LineMapModel", "isOnEdge", "(III)Z"⟩, 32) := ⟨⟨by decide +kernel, by decide +kernel⟩, List.mem_of_getElem? (i := 799) (by decide +kernel), List.mem_of_getElem? (i := 1127) (by decide +kernel), List.mem_of_getElem? (i := 1128) (by decide +kernel)⟩
def lw_privs_5 : List (MethodName × Nat) := [(⟨"LineMapModel", "bends", "()I"⟩, 32), (⟨"LineMapModel", "lengths", "()I"⟩, 32), (⟨"LineMapModel", "turns", "()I"⟩, 32), (⟨"LineMapModel", "begins", "(I)V"⟩, 32), (⟨"LineMapModel", "steps", "(I)Z"⟩, 32), (⟨"LineMapModel", "mayBe", "(I)Z"⟩, 32), (⟨"LineMapModel", "costTo", "(I)I"⟩, 32), (⟨"LineMapModel", "changes", "()Z"⟩, 32), (⟨"LineMapModel", "onPlace", "(II)I"⟩, 32), (⟨"LineMapModel", "nameX", "(II)I"⟩, 32), (⟨"LineMapModel", "nameY", "(II)I"⟩, 32), (⟨"LineMapModel", "isOnStation", "(III)Z"⟩, 32), (⟨"LineMapModel", "isOnName", "(III)Z"⟩, 32), (⟨"LineMapModel", "isOnEdge", "(III)Z"⟩, 32)]
theorem lw_r5 : ∀ q ∈ lw_privs_5, lw_okq q := List.forall_mem_cons.mpr ⟨lw_p64, List.forall_mem_cons.mpr ⟨lw_p65, List.forall_mem_cons.mpr ⟨lw_p66, List.forall_mem_cons.mpr ⟨lw_p67, List.forall_mem_cons.mpr ⟨lw_p68, List.forall_mem_cons.mpr ⟨lw_p69, List.forall_mem_cons.mpr ⟨lw_p70, List.forall_mem_cons.mpr ⟨lw_p71, List.forall_mem_cons.mpr ⟨lw_p72, List.forall_mem_cons.mpr ⟨lw_p73, List.forall_mem_cons.mpr ⟨lw_p74, List.forall_mem_cons.mpr ⟨lw_p75, List.forall_mem_cons.mpr ⟨lw_p76, List.forall_mem_cons.mpr ⟨lw_p77, fun _ h => absurd h List.not_mem_nil⟩⟩⟩⟩⟩⟩⟩⟩⟩⟩⟩⟩⟩⟩
def lw_privs : List (MethodName × Nat) := lw_privs_1 ++ (lw_privs_2 ++ (lw_privs_3 ++ (lw_privs_4 ++ (lw_privs_5))))
def lw_tbl : List Cond := k2_sels lw_privs ++ tables_1
theorem lw_privs_ok : ∀ q ∈ lw_privs, lw_okq q := by
  show ∀ q ∈ lw_privs_1 ++ (lw_privs_2 ++ (lw_privs_3 ++ (lw_privs_4 ++ (lw_privs_5)))), lw_okq q
  exact List.forall_mem_append.mpr ⟨lw_r1, List.forall_mem_append.mpr ⟨lw_r2, List.forall_mem_append.mpr ⟨lw_r3, List.forall_mem_append.mpr ⟨lw_r4, lw_r5⟩⟩⟩⟩
def mm_T0 : u_T := fun k => match k with
  | 0 => ("LineMap$Law", "net", "LLineMap$Net;", true)
  | 1 => ("LineMap$Law", "plan", "LLineMap$Plan;", true)
  | 2 => ("LineMap$Law", "terms", "LLineMap$Terms;", true)
  | 3 => ("LineMap$Law", "fault", "I", false)
  | 4 => ("LineMap$Law", "first", "I", false)
  | _ => ("LineMap$Law", "second", "I", false)
def mm_ty0 : Nat → FieldType := fun k => match k with
  | 0 => .object "LineMap$Net"
  | 1 => .object "LineMap$Plan"
  | 2 => .object "LineMap$Terms"
  | 3 => .int
  | 4 => .int
  | _ => .int
theorem mm_nm0 : ∀ a, a < 6 → ∀ b, b < 6 → a ≠ b → (mm_T0 a).2.1 ≠ (mm_T0 b).2.1 := by decide +kernel
theorem mm_tok0 : ∀ k, k < 6 → parseFieldDescriptor (mm_T0 k).2.2.1 = some (mm_ty0 k) := by decide +kernel
def mm_T1 : u_T := fun k => match k with
  | 0 => ("LineMap$Names", "net", "LLineMap$Net;", true)
  | 1 => ("LineMap$Names", "plan", "LLineMap$Plan;", true)
  | 2 => ("LineMap$Names", "signs", "[I", true)
  | 3 => ("LineMap$Names", "side", "[I", true)
  | 4 => ("LineMap$Names", "hindrance", "[I", true)
  | 5 => ("LineMap$Names", "begin", "[I", true)
  | 6 => ("LineMap$Names", "end", "[I", true)
  | _ => ("LineMap$Names", "level", "[I", true)
def mm_ty1 : Nat → FieldType := fun k => match k with
  | 0 => .object "LineMap$Net"
  | 1 => .object "LineMap$Plan"
  | 2 => .array .int
  | 3 => .array .int
  | 4 => .array .int
  | 5 => .array .int
  | 6 => .array .int
  | _ => .array .int
theorem mm_nm1 : ∀ a, a < 8 → ∀ b, b < 8 → a ≠ b → (mm_T1 a).2.1 ≠ (mm_T1 b).2.1 := by decide +kernel
theorem mm_tok1 : ∀ k, k < 8 → parseFieldDescriptor (mm_T1 k).2.2.1 = some (mm_ty1 k) := by decide +kernel
def mm_T2 : u_T := fun k => match k with
  | 0 => ("LineMap$Net", "stations", "I", false)
  | 1 => ("LineMap$Net", "lines", "I", false)
  | 2 => ("LineMap$Net", "edges", "I", false)
  | 3 => ("LineMap$Net", "x", "[I", true)
  | 4 => ("LineMap$Net", "y", "[I", true)
  | 5 => ("LineMap$Net", "size", "[I", true)
  | 6 => ("LineMap$Net", "row", "[[I", true)
  | 7 => ("LineMap$Net", "rank", "[[I", true)
  | 8 => ("LineMap$Net", "low", "[I", true)
  | 9 => ("LineMap$Net", "high", "[I", true)
  | 10 => ("LineMap$Net", "heading", "[I", true)
  | 11 => ("LineMap$Net", "degree", "[I", true)
  | 12 => ("LineMap$Net", "ring", "[[I", true)
  | _ => ("LineMap$Net", "edgeOf", "[[I", true)
def mm_ty2 : Nat → FieldType := fun k => match k with
  | 0 => .int
  | 1 => .int
  | 2 => .int
  | 3 => .array .int
  | 4 => .array .int
  | 5 => .array .int
  | 6 => .array (.array .int)
  | 7 => .array (.array .int)
  | 8 => .array .int
  | 9 => .array .int
  | 10 => .array .int
  | 11 => .array .int
  | 12 => .array (.array .int)
  | _ => .array (.array .int)
theorem mm_nm2 : ∀ a, a < 14 → ∀ b, b < 14 → a ≠ b → (mm_T2 a).2.1 ≠ (mm_T2 b).2.1 := by decide +kernel
theorem mm_tok2 : ∀ k, k < 14 → parseFieldDescriptor (mm_T2 k).2.2.1 = some (mm_ty2 k) := by decide +kernel
def mm_T3 : u_T := fun k => match k with
  | 0 => ("LineMap$Plan", "w", "I", false)
  | 1 => ("LineMap$Plan", "h", "I", false)
  | 2 => ("LineMap$Plan", "x", "[I", true)
  | 3 => ("LineMap$Plan", "y", "[I", true)
  | _ => ("LineMap$Plan", "held", "[Z", true)
def mm_ty3 : Nat → FieldType := fun k => match k with
  | 0 => .int
  | 1 => .int
  | 2 => .array .int
  | 3 => .array .int
  | _ => .array .boolean
theorem mm_nm3 : ∀ a, a < 5 → ∀ b, b < 5 → a ≠ b → (mm_T3 a).2.1 ≠ (mm_T3 b).2.1 := by decide +kernel
theorem mm_tok3 : ∀ k, k < 5 → parseFieldDescriptor (mm_T3 k).2.2.1 = some (mm_ty3 k) := by decide +kernel
def mm_T4 : u_T := fun k => match k with
  | 0 => ("LineMap$Price", "net", "LLineMap$Net;", true)
  | 1 => ("LineMap$Price", "plan", "LLineMap$Plan;", true)
  | _ => ("LineMap$Price", "terms", "LLineMap$Terms;", true)
def mm_ty4 : Nat → FieldType := fun k => match k with
  | 0 => .object "LineMap$Net"
  | 1 => .object "LineMap$Plan"
  | _ => .object "LineMap$Terms"
theorem mm_nm4 : ∀ a, a < 3 → ∀ b, b < 3 → a ≠ b → (mm_T4 a).2.1 ≠ (mm_T4 b).2.1 := by decide +kernel
theorem mm_tok4 : ∀ k, k < 3 → parseFieldDescriptor (mm_T4 k).2.2.1 = some (mm_ty4 k) := by decide +kernel
def mm_T5 : u_T := fun k => match k with
  | 0 => ("LineMap$Search", "net", "LLineMap$Net;", true)
  | 1 => ("LineMap$Search", "terms", "LLineMap$Terms;", true)
  | 2 => ("LineMap$Search", "trial", "LLineMap$Plan;", true)
  | 3 => ("LineMap$Search", "law", "LLineMap$Law;", true)
  | 4 => ("LineMap$Search", "price", "LLineMap$Price;", true)
  | 5 => ("LineMap$Search", "reach", "[I", true)
  | 6 => ("LineMap$Search", "inside", "[[I", true)
  | 7 => ("LineMap$Search", "fixed", "[I", true)
  | 8 => ("LineMap$Search", "found", "[I", true)
  | 9 => ("LineMap$Search", "order", "[I", true)
  | 10 => ("LineMap$Search", "isOrdered", "[Z", true)
  | 11 => ("LineMap$Search", "rest", "[I", true)
  | 12 => ("LineMap$Search", "isAnyHeld", "Z", false)
  | 13 => ("LineMap$Search", "limit", "I", false)
  | _ => ("LineMap$Search", "enough", "I", false)
def mm_ty5 : Nat → FieldType := fun k => match k with
  | 0 => .object "LineMap$Net"
  | 1 => .object "LineMap$Terms"
  | 2 => .object "LineMap$Plan"
  | 3 => .object "LineMap$Law"
  | 4 => .object "LineMap$Price"
  | 5 => .array .int
  | 6 => .array (.array .int)
  | 7 => .array .int
  | 8 => .array .int
  | 9 => .array .int
  | 10 => .array .boolean
  | 11 => .array .int
  | 12 => .boolean
  | 13 => .int
  | _ => .int
theorem mm_nm5 : ∀ a, a < 15 → ∀ b, b < 15 → a ≠ b → (mm_T5 a).2.1 ≠ (mm_T5 b).2.1 := by decide +kernel
theorem mm_tok5 : ∀ k, k < 15 → parseFieldDescriptor (mm_T5 k).2.2.1 = some (mm_ty5 k) := by decide +kernel
def mm_T6 : u_T := fun k => match k with
  | 0 => ("LineMap$Terms", "perBend", "I", false)
  | 1 => ("LineMap$Terms", "perLength", "I", false)
  | 2 => ("LineMap$Terms", "perTurn", "I", false)
  | _ => ("LineMap$Terms", "least", "I", false)
def mm_ty6 : Nat → FieldType := fun k => match k with
  | 0 => .int
  | 1 => .int
  | 2 => .int
  | _ => .int
theorem mm_nm6 : ∀ a, a < 4 → ∀ b, b < 4 → a ≠ b → (mm_T6 a).2.1 ≠ (mm_T6 b).2.1 := by decide +kernel
theorem mm_tok6 : ∀ k, k < 4 → parseFieldDescriptor (mm_T6 k).2.2.1 = some (mm_ty6 k) := by decide +kernel
def mm_T7 : u_T := fun k => match k with
  | 0 => ("LineMap", "net", "LLineMap$Net;", true)
  | 1 => ("LineMap", "plan", "LLineMap$Plan;", true)
  | 2 => ("LineMap", "terms", "LLineMap$Terms;", true)
  | 3 => ("LineMap", "law", "LLineMap$Law;", true)
  | 4 => ("LineMap", "price", "LLineMap$Price;", true)
  | 5 => ("LineMap", "search", "LLineMap$Search;", true)
  | 6 => ("LineMap", "names", "LLineMap$Names;", true)
  | 7 => ("LineMap", "images", "[LLineMap$Plan;", true)
  | 8 => ("LineMap", "isImageKept", "[Z", true)
  | _ => ("LineMap", "refusal", "I", false)
def mm_ty7 : Nat → FieldType := fun k => match k with
  | 0 => .object "LineMap$Net"
  | 1 => .object "LineMap$Plan"
  | 2 => .object "LineMap$Terms"
  | 3 => .object "LineMap$Law"
  | 4 => .object "LineMap$Price"
  | 5 => .object "LineMap$Search"
  | 6 => .object "LineMap$Names"
  | 7 => .array (.object "LineMap$Plan")
  | 8 => .array .boolean
  | _ => .int
theorem mm_nm7 : ∀ a, a < 10 → ∀ b, b < 10 → a ≠ b → (mm_T7 a).2.1 ≠ (mm_T7 b).2.1 := by decide +kernel
theorem mm_tok7 : ∀ k, k < 10 → parseFieldDescriptor (mm_T7 k).2.2.1 = some (mm_ty7 k) := by decide +kernel
def mm_T8 : u_T := fun k => match k with
  | 0 => ("LineMapModel", "status", "I", false)
  | 1 => ("LineMapModel", "stations", "I", false)
  | 2 => ("LineMapModel", "lines", "I", false)
  | 3 => ("LineMapModel", "edges", "I", false)
  | 4 => ("LineMapModel", "trueX", "[I", true)
  | 5 => ("LineMapModel", "trueY", "[I", true)
  | 6 => ("LineMapModel", "lineSize", "[I", true)
  | 7 => ("LineMapModel", "lineOf", "[I", true)
  | 8 => ("LineMapModel", "edgeLow", "[I", true)
  | 9 => ("LineMapModel", "edgeHigh", "[I", true)
  | 10 => ("LineMapModel", "ring", "[I", true)
  | 11 => ("LineMapModel", "ringSize", "I", false)
  | 12 => ("LineMapModel", "wide", "I", false)
  | 13 => ("LineMapModel", "high", "I", false)
  | 14 => ("LineMapModel", "span", "I", false)
  | 15 => ("LineMapModel", "bend", "I", false)
  | 16 => ("LineMapModel", "way", "I", false)
  | 17 => ("LineMapModel", "turn", "I", false)
  | 18 => ("LineMapModel", "point", "[I", true)
  | 19 => ("LineMapModel", "isHeld", "[Z", true)
  | 20 => ("LineMapModel", "name", "[I", true)
  | 21 => ("LineMapModel", "whyOne", "I", false)
  | 22 => ("LineMapModel", "whyOther", "I", false)
  | 23 => ("LineMapModel", "before", "[I", true)
  | 24 => ("LineMapModel", "bestPoint", "[I", true)
  | 25 => ("LineMapModel", "isTried", "[Z", true)
  | 26 => ("LineMapModel", "put", "I", false)
  | 27 => ("LineMapModel", "namePlace", "[I", true)
  | 28 => ("LineMapModel", "hindered", "[I", true)
  | 29 => ("LineMapModel", "toldPlace", "[I", true)
  | 30 => ("LineMapModel", "isKept", "[Z", true)
  | _ => ("LineMapModel", "kept", "[I", true)
def mm_ty8 : Nat → FieldType := fun k => match k with
  | 0 => .int
  | 1 => .int
  | 2 => .int
  | 3 => .int
  | 4 => .array .int
  | 5 => .array .int
  | 6 => .array .int
  | 7 => .array .int
  | 8 => .array .int
  | 9 => .array .int
  | 10 => .array .int
  | 11 => .int
  | 12 => .int
  | 13 => .int
  | 14 => .int
  | 15 => .int
  | 16 => .int
  | 17 => .int
  | 18 => .array .int
  | 19 => .array .boolean
  | 20 => .array .int
  | 21 => .int
  | 22 => .int
  | 23 => .array .int
  | 24 => .array .int
  | 25 => .array .boolean
  | 26 => .int
  | 27 => .array .int
  | 28 => .array .int
  | 29 => .array .int
  | 30 => .array .boolean
  | _ => .array .int
theorem mm_nm8 : ∀ a, a < 32 → ∀ b, b < 32 → a ≠ b → (mm_T8 a).2.1 ≠ (mm_T8 b).2.1 := by decide +kernel
theorem mm_tok8 : ∀ k, k < 32 → parseFieldDescriptor (mm_T8 k).2.2.1 = some (mm_ty8 k) := by decide +kernel
abbrev mm_cl : List vw_C := [("LineMap$Law", mm_T0, 6), ("LineMap$Names", mm_T1, 8), ("LineMap$Net", mm_T2, 14), ("LineMap$Plan", mm_T3, 5), ("LineMap$Price", mm_T4, 3), ("LineMap$Search", mm_T5, 15), ("LineMap$Terms", mm_T6, 4), ("LineMap", mm_T7, 10), ("LineMapModel", mm_T8, 32)]
theorem mm_lay0 : ∀ w ∈ u_ws "LineMap$Law" mm_T0 6, w ∈ lw_tbl := fun w hw => by
  obtain ⟨i, -, hi⟩ := List.mem_filterMap.mp (show w ∈ [270, 272, 274, 276, 278, 280].filterMap (fun i => lw_tbl[i]?) from (show u_ws "LineMap$Law" mm_T0 6 = [270, 272, 274, 276, 278, 280].filterMap (fun i => lw_tbl[i]?) by decide +kernel) ▸ hw)
  exact List.mem_of_getElem? hi
theorem mm_ins0 : lw_tbl[256]? = some (.instantiable "LineMap$Law" 6) ∧ lw_tbl[84]? = some (.initialized "LineMap$Law") := by decide +kernel
def mm_def0 : List (Int32 ⊕ Option Nat) := [.inr none, .inr none, .inr none, .inl 0, .inl 0, .inl 0]
theorem mm_lay1 : ∀ w ∈ u_ws "LineMap$Names" mm_T1 8, w ∈ lw_tbl := fun w hw => by
  obtain ⟨i, -, hi⟩ := List.mem_filterMap.mp (show w ∈ [380, 382, 384, 386, 388, 390, 392, 394].filterMap (fun i => lw_tbl[i]?) from (show u_ws "LineMap$Names" mm_T1 8 = [380, 382, 384, 386, 388, 390, 392, 394].filterMap (fun i => lw_tbl[i]?) by decide +kernel) ▸ hw)
  exact List.mem_of_getElem? hi
theorem mm_ins1 : lw_tbl[359]? = some (.instantiable "LineMap$Names" 8) ∧ lw_tbl[87]? = some (.initialized "LineMap$Names") := by decide +kernel
def mm_def1 : List (Int32 ⊕ Option Nat) := [.inr none, .inr none, .inr none, .inr none, .inr none, .inr none, .inr none, .inr none]
theorem mm_lay2 : ∀ w ∈ u_ws "LineMap$Net" mm_T2 14, w ∈ lw_tbl := fun w hw => by
  obtain ⟨i, -, hi⟩ := List.mem_filterMap.mp (show w ∈ [159, 161, 163, 165, 167, 169, 171, 173, 175, 177, 179, 181, 183, 185].filterMap (fun i => lw_tbl[i]?) from (show u_ws "LineMap$Net" mm_T2 14 = [159, 161, 163, 165, 167, 169, 171, 173, 175, 177, 179, 181, 183, 185].filterMap (fun i => lw_tbl[i]?) by decide +kernel) ▸ hw)
  exact List.mem_of_getElem? hi
theorem mm_ins2 : lw_tbl[99]? = some (.instantiable "LineMap$Net" 14) ∧ lw_tbl[80]? = some (.initialized "LineMap$Net") := by decide +kernel
def mm_def2 : List (Int32 ⊕ Option Nat) := [.inl 0, .inl 0, .inl 0, .inr none, .inr none, .inr none, .inr none, .inr none, .inr none, .inr none, .inr none, .inr none, .inr none, .inr none]
theorem mm_lay3 : ∀ w ∈ u_ws "LineMap$Plan" mm_T3 5, w ∈ lw_tbl := fun w hw => by
  obtain ⟨i, -, hi⟩ := List.mem_filterMap.mp (show w ∈ [214, 216, 218, 220, 222].filterMap (fun i => lw_tbl[i]?) from (show u_ws "LineMap$Plan" mm_T3 5 = [214, 216, 218, 220, 222].filterMap (fun i => lw_tbl[i]?) by decide +kernel) ▸ hw)
  exact List.mem_of_getElem? hi
theorem mm_ins3 : lw_tbl[190]? = some (.instantiable "LineMap$Plan" 5) ∧ lw_tbl[82]? = some (.initialized "LineMap$Plan") := by decide +kernel
def mm_def3 : List (Int32 ⊕ Option Nat) := [.inl 0, .inl 0, .inr none, .inr none, .inr none]
theorem mm_lay4 : ∀ w ∈ u_ws "LineMap$Price" mm_T4 3, w ∈ lw_tbl := fun w hw => by
  obtain ⟨i, -, hi⟩ := List.mem_filterMap.mp (show w ∈ [292, 294, 296].filterMap (fun i => lw_tbl[i]?) from (show u_ws "LineMap$Price" mm_T4 3 = [292, 294, 296].filterMap (fun i => lw_tbl[i]?) by decide +kernel) ▸ hw)
  exact List.mem_of_getElem? hi
theorem mm_ins4 : lw_tbl[284]? = some (.instantiable "LineMap$Price" 3) ∧ lw_tbl[85]? = some (.initialized "LineMap$Price") := by decide +kernel
def mm_def4 : List (Int32 ⊕ Option Nat) := [.inr none, .inr none, .inr none]
theorem mm_lay5 : ∀ w ∈ u_ws "LineMap$Search" mm_T5 15, w ∈ lw_tbl := fun w hw => by
  obtain ⟨i, -, hi⟩ := List.mem_filterMap.mp (show w ∈ [327, 329, 331, 333, 335, 337, 339, 341, 343, 345, 347, 349, 351, 353, 355].filterMap (fun i => lw_tbl[i]?) from (show u_ws "LineMap$Search" mm_T5 15 = [327, 329, 331, 333, 335, 337, 339, 341, 343, 345, 347, 349, 351, 353, 355].filterMap (fun i => lw_tbl[i]?) by decide +kernel) ▸ hw)
  exact List.mem_of_getElem? hi
theorem mm_ins5 : lw_tbl[300]? = some (.instantiable "LineMap$Search" 15) ∧ lw_tbl[86]? = some (.initialized "LineMap$Search") := by decide +kernel
def mm_def5 : List (Int32 ⊕ Option Nat) := [.inr none, .inr none, .inr none, .inr none, .inr none, .inr none, .inr none, .inr none, .inr none, .inr none, .inr none, .inr none, .inl 0, .inl 0, .inl 0]
theorem mm_lay6 : ∀ w ∈ u_ws "LineMap$Terms" mm_T6 4, w ∈ lw_tbl := fun w hw => by
  obtain ⟨i, -, hi⟩ := List.mem_filterMap.mp (show w ∈ [246, 248, 250, 252].filterMap (fun i => lw_tbl[i]?) from (show u_ws "LineMap$Terms" mm_T6 4 = [246, 248, 250, 252].filterMap (fun i => lw_tbl[i]?) by decide +kernel) ▸ hw)
  exact List.mem_of_getElem? hi
theorem mm_ins6 : lw_tbl[227]? = some (.instantiable "LineMap$Terms" 4) ∧ lw_tbl[83]? = some (.initialized "LineMap$Terms") := by decide +kernel
def mm_def6 : List (Int32 ⊕ Option Nat) := [.inl 0, .inl 0, .inl 0, .inl 0]
theorem mm_lay7 : ∀ w ∈ u_ws "LineMap" mm_T7 10, w ∈ lw_tbl := fun w hw => by
  obtain ⟨i, -, hi⟩ := List.mem_filterMap.mp (show w ∈ [408, 410, 412, 414, 416, 418, 420, 422, 424, 426].filterMap (fun i => lw_tbl[i]?) from (show u_ws "LineMap" mm_T7 10 = [408, 410, 412, 414, 416, 418, 420, 422, 424, 426].filterMap (fun i => lw_tbl[i]?) by decide +kernel) ▸ hw)
  exact List.mem_of_getElem? hi
theorem mm_ins7 : lw_tbl[91]? = some (.instantiable "LineMap" 10) ∧ lw_tbl[79]? = some (.initialized "LineMap") := by decide +kernel
def mm_def7 : List (Int32 ⊕ Option Nat) := [.inr none, .inr none, .inr none, .inr none, .inr none, .inr none, .inr none, .inr none, .inr none, .inl 0]
theorem mm_lay8 : ∀ w ∈ u_ws "LineMapModel" mm_T8 32, w ∈ lw_tbl := fun w hw => by
  obtain ⟨i, -, hi⟩ := List.mem_filterMap.mp (show w ∈ [914, 916, 918, 920, 922, 924, 926, 928, 930, 932, 934, 936, 938, 940, 942, 944, 946, 948, 950, 952, 954, 956, 958, 960, 962, 964, 966, 968, 970, 972, 974, 976].filterMap (fun i => lw_tbl[i]?) from (show u_ws "LineMapModel" mm_T8 32 = [914, 916, 918, 920, 922, 924, 926, 928, 930, 932, 934, 936, 938, 940, 942, 944, 946, 948, 950, 952, 954, 956, 958, 960, 962, 964, 966, 968, 970, 972, 974, 976].filterMap (fun i => lw_tbl[i]?) by decide +kernel) ▸ hw)
  exact List.mem_of_getElem? hi
theorem mm_ins8 : lw_tbl[877]? = some (.instantiable "LineMapModel" 32) ∧ lw_tbl[88]? = some (.initialized "LineMapModel") := by decide +kernel
def mm_def8 : List (Int32 ⊕ Option Nat) := [.inl 0, .inl 0, .inl 0, .inl 0, .inr none, .inr none, .inr none, .inr none, .inr none, .inr none, .inr none, .inl 0, .inl 0, .inl 0, .inl 0, .inl 0, .inl 0, .inl 0, .inr none, .inr none, .inr none, .inl 0, .inl 0, .inr none, .inr none, .inr none, .inl 0, .inr none, .inr none, .inr none, .inr none, .inr none]
def mm_ns : List MethodName := [⟨"LineMap$Law", "<init>", "(LLineMap$Net;LLineMap$Plan;LLineMap$Terms;)V"⟩, ⟨"LineMap$Law", "isAllowed", "()Z"⟩, ⟨"LineMap$Law", "examine", "()V"⟩, ⟨"LineMap$Law", "blame", "(III)Z"⟩, ⟨"LineMap$Law", "findUnplaced", "()Z"⟩, ⟨"LineMap$Law", "findShared", "()Z"⟩, ⟨"LineMap$Law", "findCrooked", "()Z"⟩, ⟨"LineMap$Law", "findShort", "()Z"⟩, ⟨"LineMap$Law", "findCovered", "()Z"⟩, ⟨"LineMap$Law", "isOnEdge", "(II)Z"⟩, ⟨"LineMap$Law", "findCrossing", "()Z"⟩, ⟨"LineMap$Law", "findTwisted", "()Z"⟩, ⟨"LineMap$Law", "isRingTrue", "(I)Z"⟩, ⟨"LineMap$Law", "areEdgesGood", "(I)Z"⟩, ⟨"LineMap$Law", "fits", "(I)Z"⟩, ⟨"LineMap$Law", "isAlone", "(I)Z"⟩, ⟨"LineMap$Law", "isOffEdges", "(I)Z"⟩, ⟨"LineMap$Law", "isDrawn", "(I)Z"⟩, ⟨"LineMap$Law", "areEdgesClear", "(I)Z"⟩, ⟨"LineMap$Law", "isEdgeClear", "(II)Z"⟩, ⟨"LineMap$Law", "isCrossed", "(II)Z"⟩, ⟨"LineMap$Law", "areRingsTrue", "(I)Z"⟩, ⟨"LineMap$Names", "<init>", "(LLineMap$Net;LLineMap$Plan;)V"⟩, ⟨"LineMap$Names", "forget", "()V"⟩, ⟨"LineMap$Names", "putAll", "()I"⟩, ⟨"LineMap$Names", "layFreely", "(I)Z"⟩, ⟨"LineMap$Names", "lay", "(II)V"⟩, ⟨"LineMap$Names", "obstacle", "(I)I"⟩, ⟨"LineMap$Names", "isUnder", "(III)Z"⟩, ⟨"LineMap$Names", "isOnEdge", "(III)Z"⟩, ⟨"LineMap$Net", "<init>", "()V"⟩, ⟨"LineMap$Net", "isStation", "(I)Z"⟩, ⟨"LineMap$Net", "isLine", "(I)Z"⟩, ⟨"LineMap$Net", "hasStationAt", "(II)Z"⟩, ⟨"LineMap$Net", "addStation", "(II)I"⟩, ⟨"LineMap$Net", "addLine", "()I"⟩, ⟨"LineMap$Net", "extend", "(II)I"⟩, ⟨"LineMap$Net", "join", "(II)V"⟩, ⟨"LineMap$Net", "numberEdges", "()V"⟩, ⟨"LineMap$Net", "trueDirection", "(II)I"⟩, ⟨"LineMap$Net", "addToRing", "(II)V"⟩, ⟨"LineMap$Net", "comesBefore", "(III)Z"⟩, ⟨"LineMap$Net", "half", "(II)I"⟩, ⟨"LineMap$Plan", "<init>", "()V"⟩, ⟨"LineMap$Plan", "begin", "(II)V"⟩, ⟨"LineMap$Plan", "points", "()I"⟩, ⟨"LineMap$Plan", "isPlaced", "(I)Z"⟩, ⟨"LineMap$Plan", "where", "(I)I"⟩, ⟨"LineMap$Plan", "move", "(II)V"⟩, ⟨"LineMap$Plan", "copy", "(LLineMap$Plan;)V"⟩, ⟨"LineMap$Plan", "countPlaced", "()I"⟩, ⟨"LineMap$Plan", "countHeld", "()I"⟩, ⟨"LineMap$Plan", "directionTo", "(II)I"⟩, ⟨"LineMap$Plan", "distance", "(II)I"⟩, ⟨"LineMap$Plan", "isSamePoint", "(II)Z"⟩, ⟨"LineMap$Plan", "side", "(III)I"⟩, ⟨"LineMap$Plan", "liesBetween", "(III)Z"⟩, ⟨"LineMap$Plan", "isInSpan", "(III)Z"⟩, ⟨"LineMap$Plan", "isCrossing", "(IIII)Z"⟩, ⟨"LineMap$Price", "<init>", "(LLineMap$Net;LLineMap$Plan;LLineMap$Terms;)V"⟩, ⟨"LineMap$Price", "total", "()I"⟩, ⟨"LineMap$Price", "bends", "()I"⟩, ⟨"LineMap$Price", "lengths", "()I"⟩, ⟨"LineMap$Price", "turns", "()I"⟩, ⟨"LineMap$Price", "eighthsBetween", "(II)I"⟩, ⟨"LineMap$Price", "turnOf", "(I)I"⟩, ⟨"LineMap$Price", "bendAt", "(II)I"⟩, ⟨"LineMap$Price", "around", "(I)I"⟩, ⟨"LineMap$Price", "bendsAround", "(I)I"⟩, ⟨"LineMap$Price", "isBendPlaced", "([II)Z"⟩, ⟨"LineMap$Search", "<init>", "(LLineMap$Net;LLineMap$Terms;)V"⟩, ⟨"LineMap$Search", "findLeast", "(LLineMap$Plan;)I"⟩, ⟨"LineMap$Search", "lookRound", "(II)V"⟩, ⟨"LineMap$Search", "settle", "(II)V"⟩, ⟨"LineMap$Search", "arrange", "()V"⟩, ⟨"LineMap$Search", "urgencyOf", "(I)I"⟩, ⟨"LineMap$Search", "edgesToOrdered", "(I)I"⟩, ⟨"LineMap$Search", "countRest", "()V"⟩, ⟨"LineMap$Search", "descend", "(III)Z"⟩, ⟨"LineMap$Search", "keep", "(I)Z"⟩, ⟨"LineMap$Search", "openPoints", "(I)I"⟩, ⟨"LineMap$Search", "flushPoints", "()I"⟩, ⟨"LineMap$Search", "passedPoints", "(III)I"⟩, ⟨"LineMap$Terms", "<init>", "()V"⟩, ⟨"LineMap", "<init>", "()V"⟩, ⟨"LineMap", "station", "(II)I"⟩, ⟨"LineMap", "line", "()I"⟩, ⟨"LineMap", "lead", "(II)I"⟩, ⟨"LineMap", "of", "(II)I"⟩, ⟨"LineMap", "edge", "(II)I"⟩, ⟨"LineMap", "round", "(II)I"⟩, ⟨"LineMap", "grid", "(II)I"⟩, ⟨"LineMap", "span", "(I)I"⟩, ⟨"LineMap", "terms", "(III)I"⟩, ⟨"LineMap", "place", "(III)I"⟩, ⟨"LineMap", "point", "(I)I"⟩, ⟨"LineMap", "hold", "(IZ)I"⟩, ⟨"LineMap", "why", "(I)I"⟩, ⟨"LineMap", "cost", "(I)I"⟩, ⟨"LineMap", "best", "()I"⟩, ⟨"LineMap", "better", "()I"⟩, ⟨"LineMap", "name", "(II)I"⟩, ⟨"LineMap", "put", "()I"⟩, ⟨"LineMap", "named", "(II)I"⟩, ⟨"LineMap", "image", "(I)I"⟩, ⟨"LineMap", "back", "(I)I"⟩, ⟨"LineMap", "count", "(I)I"⟩, ⟨"LineMap", "status", "()I"⟩, ⟨"LineMap", "refuse", "(I)I"⟩, ⟨"LineMap", "accept", "(I)I"⟩, ⟨"LineMap", "isWithin", "(III)Z"⟩, ⟨"LineMap", "isWeight", "(I)Z"⟩, ⟨"LineMap", "makeBestChange", "()Z"⟩, ⟨"LineMapModel", "<init>", "()V"⟩, ⟨"LineMapModel", "in", "(III)Z"⟩, ⟨"LineMapModel", "ends", "(I)I"⟩, ⟨"LineMapModel", "isStation", "(I)Z"⟩, ⟨"LineMapModel", "station", "(II)I"⟩, ⟨"LineMapModel", "line", "()I"⟩, ⟨"LineMapModel", "lead", "(II)I"⟩, ⟨"LineMapModel", "of", "(II)I"⟩, ⟨"LineMapModel", "areLed", "(II)Z"⟩, ⟨"LineMapModel", "finds", "()V"⟩, ⟨"LineMapModel", "size", "(I)I"⟩, ⟨"LineMapModel", "aslant", "(II)I"⟩, ⟨"LineMapModel", "trueDirection", "(II)I"⟩, ⟨"LineMapModel", "edge", "(II)I"⟩, ⟨"LineMapModel", "half", "(II)I"⟩, ⟨"LineMapModel", "isAhead", "(III)Z"⟩, ⟨"LineMapModel", "rounds", "(I)V"⟩, ⟨"LineMapModel", "round", "(II)I"⟩, ⟨"LineMapModel", "grid", "(II)I"⟩, ⟨"LineMapModel", "span", "(I)I"⟩, ⟨"LineMapModel", "terms", "(III)I"⟩, ⟨"LineMapModel", "place", "(III)I"⟩, ⟨"LineMapModel", "point", "(I)I"⟩, ⟨"LineMapModel", "hold", "(IZ)I"⟩, ⟨"LineMapModel", "x", "(I)I"⟩, ⟨"LineMapModel", "y", "(I)I"⟩, ⟨"LineMapModel", "isStraight", "(II)Z"⟩, ⟨"LineMapModel", "length", "(II)I"⟩, ⟨"LineMapModel", "direction", "(II)I"⟩, ⟨"LineMapModel", "cross", "(III)I"⟩, ⟨"LineMapModel", "isBetween", "(III)Z"⟩, ⟨"LineMapModel", "lies", "(III)Z"⟩, ⟨"LineMapModel", "sign", "(I)I"⟩, ⟨"LineMapModel", "meet", "(IIII)Z"⟩, ⟨"LineMapModel", "bars", "(III)I"⟩, ⟨"LineMapModel", "whyNot", "()I"⟩, ⟨"LineMapModel", "isTrueRound", "(I)Z"⟩, ⟨"LineMapModel", "why", "(I)I"⟩, ⟨"LineMapModel", "apart", "(II)I"⟩, ⟨"LineMapModel", "bends", "()I"⟩, ⟨"LineMapModel", "lengths", "()I"⟩, ⟨"LineMapModel", "turns", "()I"⟩, ⟨"LineMapModel", "costOf", "()I"⟩, ⟨"LineMapModel", "cost", "(I)I"⟩, ⟨"LineMapModel", "mayBe", "(I)Z"⟩, ⟨"LineMapModel", "costTo", "(I)I"⟩, ⟨"LineMapModel", "best", "()I"⟩, ⟨"LineMapModel", "begins", "(I)V"⟩, ⟨"LineMapModel", "steps", "(I)Z"⟩, ⟨"LineMapModel", "better", "()I"⟩, ⟨"LineMapModel", "changes", "()Z"⟩, ⟨"LineMapModel", "name", "(II)I"⟩, ⟨"LineMapModel", "nameX", "(II)I"⟩, ⟨"LineMapModel", "nameY", "(II)I"⟩, ⟨"LineMapModel", "isOnStation", "(III)Z"⟩, ⟨"LineMapModel", "isOnEdge", "(III)Z"⟩, ⟨"LineMapModel", "isOnName", "(III)Z"⟩, ⟨"LineMapModel", "onPlace", "(II)I"⟩, ⟨"LineMapModel", "first", "(II)I"⟩, ⟨"LineMapModel", "put", "()I"⟩, ⟨"LineMapModel", "named", "(II)I"⟩, ⟨"LineMapModel", "image", "(I)I"⟩, ⟨"LineMapModel", "back", "(I)I"⟩, ⟨"LineMapModel", "count", "(I)I"⟩, ⟨"LineMapModel", "status", "()I"⟩, ⟨"java/util/Arrays", "fill", "([II)V"⟩, ⟨"LineMapLaw", "law", "([I)Z"⟩]
def mm_defs (c : Nat) : List (Int32 ⊕ Option Nat) := match c with
  | 0 => mm_def0
  | 1 => mm_def1
  | 2 => mm_def2
  | 3 => mm_def3
  | 4 => mm_def4
  | 5 => mm_def5
  | 6 => mm_def6
  | 7 => mm_def7
  | _ => mm_def8
