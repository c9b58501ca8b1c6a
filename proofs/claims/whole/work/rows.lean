section
-- ===== PART A: goes FIRST, ahead of the names: the tables' words, and 'selects' of the private methods out of them =====
/-- a private method of a class that the tables say can be made, by its rows of tables_1 -/
def lw_okq (q : MethodName × Nat) : Prop := (q.1.cls ≠ "java/lang/invoke/MethodHandle" ∧ q.1.cls ≠ "java/lang/invoke/VarHandle") ∧ Cond.instantiable q.1.cls q.2 ∈ tables_1 ∧ Cond.privateMethod q.1 ∈ tables_1 ∧ Cond.instanceMethod q.1 ∈ tables_1
theorem lw_p0 : lw_okq (⟨"LineMap$Names", "forget", "()V"⟩, 8) := ⟨⟨by decide +kernel, by decide +kernel⟩, List.mem_of_getElem? (i := 281) (by decide +kernel), List.mem_of_getElem? (i := 287) (by decide +kernel), List.mem_of_getElem? (i := 288) (by decide +kernel)⟩
theorem lw_p1 : lw_okq (⟨"LineMap", "refuse", "(I)I"⟩, 10) := ⟨⟨by decide +kernel, by decide +kernel⟩, List.mem_of_getElem? (i := 13) (by decide +kernel), List.mem_of_getElem? (i := 359) (by decide +kernel), List.mem_of_getElem? (i := 360) (by decide +kernel)⟩
theorem lw_p2 : lw_okq (⟨"LineMap", "accept", "(I)I"⟩, 10) := ⟨⟨by decide +kernel, by decide +kernel⟩, List.mem_of_getElem? (i := 13) (by decide +kernel), List.mem_of_getElem? (i := 371) (by decide +kernel), List.mem_of_getElem? (i := 372) (by decide +kernel)⟩
theorem lw_p3 : lw_okq (⟨"LineMap$Net", "join", "(II)V"⟩, 14) := ⟨⟨by decide +kernel, by decide +kernel⟩, List.mem_of_getElem? (i := 21) (by decide +kernel), List.mem_of_getElem? (i := 399) (by decide +kernel), List.mem_of_getElem? (i := 400) (by decide +kernel)⟩
theorem lw_p4 : lw_okq (⟨"LineMap$Net", "numberEdges", "()V"⟩, 14) := ⟨⟨by decide +kernel, by decide +kernel⟩, List.mem_of_getElem? (i := 21) (by decide +kernel), List.mem_of_getElem? (i := 403) (by decide +kernel), List.mem_of_getElem? (i := 404) (by decide +kernel)⟩
theorem lw_p5 : lw_okq (⟨"LineMap$Net", "addToRing", "(II)V"⟩, 14) := ⟨⟨by decide +kernel, by decide +kernel⟩, List.mem_of_getElem? (i := 21) (by decide +kernel), List.mem_of_getElem? (i := 413) (by decide +kernel), List.mem_of_getElem? (i := 414) (by decide +kernel)⟩
theorem lw_p6 : lw_okq (⟨"LineMap$Net", "comesBefore", "(III)Z"⟩, 14) := ⟨⟨by decide +kernel, by decide +kernel⟩, List.mem_of_getElem? (i := 21) (by decide +kernel), List.mem_of_getElem? (i := 417) (by decide +kernel), List.mem_of_getElem? (i := 418) (by decide +kernel)⟩
theorem lw_p7 : lw_okq (⟨"LineMap$Law", "findUnplaced", "()Z"⟩, 6) := ⟨⟨by decide +kernel, by decide +kernel⟩, List.mem_of_getElem? (i := 178) (by decide +kernel), List.mem_of_getElem? (i := 485) (by decide +kernel), List.mem_of_getElem? (i := 486) (by decide +kernel)⟩
theorem lw_p8 : lw_okq (⟨"LineMap$Law", "blame", "(III)Z"⟩, 6) := ⟨⟨by decide +kernel, by decide +kernel⟩, List.mem_of_getElem? (i := 178) (by decide +kernel), List.mem_of_getElem? (i := 490) (by decide +kernel), List.mem_of_getElem? (i := 491) (by decide +kernel)⟩
theorem lw_p9 : lw_okq (⟨"LineMap$Law", "findShared", "()Z"⟩, 6) := ⟨⟨by decide +kernel, by decide +kernel⟩, List.mem_of_getElem? (i := 178) (by decide +kernel), List.mem_of_getElem? (i := 494) (by decide +kernel), List.mem_of_getElem? (i := 495) (by decide +kernel)⟩
theorem lw_p10 : lw_okq (⟨"LineMap$Law", "findCrooked", "()Z"⟩, 6) := ⟨⟨by decide +kernel, by decide +kernel⟩, List.mem_of_getElem? (i := 178) (by decide +kernel), List.mem_of_getElem? (i := 502) (by decide +kernel), List.mem_of_getElem? (i := 503) (by decide +kernel)⟩
theorem lw_p11 : lw_okq (⟨"LineMap$Law", "findShort", "()Z"⟩, 6) := ⟨⟨by decide +kernel, by decide +kernel⟩, List.mem_of_getElem? (i := 178) (by decide +kernel), List.mem_of_getElem? (i := 510) (by decide +kernel), List.mem_of_getElem? (i := 511) (by decide +kernel)⟩
theorem lw_p12 : lw_okq (⟨"LineMap$Law", "findCovered", "()Z"⟩, 6) := ⟨⟨by decide +kernel, by decide +kernel⟩, List.mem_of_getElem? (i := 178) (by decide +kernel), List.mem_of_getElem? (i := 522) (by decide +kernel), List.mem_of_getElem? (i := 523) (by decide +kernel)⟩
theorem lw_p13 : lw_okq (⟨"LineMap$Law", "isOnEdge", "(II)Z"⟩, 6) := ⟨⟨by decide +kernel, by decide +kernel⟩, List.mem_of_getElem? (i := 178) (by decide +kernel), List.mem_of_getElem? (i := 526) (by decide +kernel), List.mem_of_getElem? (i := 527) (by decide +kernel)⟩
theorem lw_p14 : lw_okq (⟨"LineMap$Plan", "side", "(III)I"⟩, 5) := ⟨⟨by decide +kernel, by decide +kernel⟩, List.mem_of_getElem? (i := 112) (by decide +kernel), List.mem_of_getElem? (i := 534) (by decide +kernel), List.mem_of_getElem? (i := 535) (by decide +kernel)⟩
theorem lw_p15 : lw_okq (⟨"LineMap$Law", "findCrossing", "()Z"⟩, 6) := ⟨⟨by decide +kernel, by decide +kernel⟩, List.mem_of_getElem? (i := 178) (by decide +kernel), List.mem_of_getElem? (i := 544) (by decide +kernel), List.mem_of_getElem? (i := 545) (by decide +kernel)⟩
def lw_privs_1 : List (MethodName × Nat) := [(⟨"LineMap$Names", "forget", "()V"⟩, 8), (⟨"LineMap", "refuse", "(I)I"⟩, 10), (⟨"LineMap", "accept", "(I)I"⟩, 10), (⟨"LineMap$Net", "join", "(II)V"⟩, 14), (⟨"LineMap$Net", "numberEdges", "()V"⟩, 14), (⟨"LineMap$Net", "addToRing", "(II)V"⟩, 14), (⟨"LineMap$Net", "comesBefore", "(III)Z"⟩, 14), (⟨"LineMap$Law", "findUnplaced", "()Z"⟩, 6), (⟨"LineMap$Law", "blame", "(III)Z"⟩, 6), (⟨"LineMap$Law", "findShared", "()Z"⟩, 6), (⟨"LineMap$Law", "findCrooked", "()Z"⟩, 6), (⟨"LineMap$Law", "findShort", "()Z"⟩, 6), (⟨"LineMap$Law", "findCovered", "()Z"⟩, 6), (⟨"LineMap$Law", "isOnEdge", "(II)Z"⟩, 6), (⟨"LineMap$Plan", "side", "(III)I"⟩, 5), (⟨"LineMap$Law", "findCrossing", "()Z"⟩, 6)]
theorem lw_r1 : ∀ q ∈ lw_privs_1, lw_okq q := List.forall_mem_cons.mpr ⟨lw_p0, List.forall_mem_cons.mpr ⟨lw_p1, List.forall_mem_cons.mpr ⟨lw_p2, List.forall_mem_cons.mpr ⟨lw_p3, List.forall_mem_cons.mpr ⟨lw_p4, List.forall_mem_cons.mpr ⟨lw_p5, List.forall_mem_cons.mpr ⟨lw_p6, List.forall_mem_cons.mpr ⟨lw_p7, List.forall_mem_cons.mpr ⟨lw_p8, List.forall_mem_cons.mpr ⟨lw_p9, List.forall_mem_cons.mpr ⟨lw_p10, List.forall_mem_cons.mpr ⟨lw_p11, List.forall_mem_cons.mpr ⟨lw_p12, List.forall_mem_cons.mpr ⟨lw_p13, List.forall_mem_cons.mpr ⟨lw_p14, List.forall_mem_cons.mpr ⟨lw_p15, fun _ h => absurd h List.not_mem_nil⟩⟩⟩⟩⟩⟩⟩⟩⟩⟩⟩⟩⟩⟩⟩⟩
theorem lw_p16 : lw_okq (⟨"LineMap$Law", "findTwisted", "()Z"⟩, 6) := ⟨⟨by decide +kernel, by decide +kernel⟩, List.mem_of_getElem? (i := 178) (by decide +kernel), List.mem_of_getElem? (i := 552) (by decide +kernel), List.mem_of_getElem? (i := 553) (by decide +kernel)⟩
theorem lw_p17 : lw_okq (⟨"LineMap$Law", "isRingTrue", "(I)Z"⟩, 6) := ⟨⟨by decide +kernel, by decide +kernel⟩, List.mem_of_getElem? (i := 178) (by decide +kernel), List.mem_of_getElem? (i := 556) (by decide +kernel), List.mem_of_getElem? (i := 557) (by decide +kernel)⟩
theorem lw_p18 : lw_okq (⟨"LineMap$Price", "bendAt", "(II)I"⟩, 3) := ⟨⟨by decide +kernel, by decide +kernel⟩, List.mem_of_getElem? (i := 206) (by decide +kernel), List.mem_of_getElem? (i := 573) (by decide +kernel), List.mem_of_getElem? (i := 574) (by decide +kernel)⟩
theorem lw_p19 : lw_okq (⟨"LineMap$Price", "turnOf", "(I)I"⟩, 3) := ⟨⟨by decide +kernel, by decide +kernel⟩, List.mem_of_getElem? (i := 206) (by decide +kernel), List.mem_of_getElem? (i := 590) (by decide +kernel), List.mem_of_getElem? (i := 591) (by decide +kernel)⟩
theorem lw_p20 : lw_okq (⟨"LineMap$Search", "lookRound", "(II)V"⟩, 15) := ⟨⟨by decide +kernel, by decide +kernel⟩, List.mem_of_getElem? (i := 222) (by decide +kernel), List.mem_of_getElem? (i := 614) (by decide +kernel), List.mem_of_getElem? (i := 615) (by decide +kernel)⟩
theorem lw_p21 : lw_okq (⟨"LineMap$Search", "arrange", "()V"⟩, 15) := ⟨⟨by decide +kernel, by decide +kernel⟩, List.mem_of_getElem? (i := 222) (by decide +kernel), List.mem_of_getElem? (i := 628) (by decide +kernel), List.mem_of_getElem? (i := 629) (by decide +kernel)⟩
theorem lw_p22 : lw_okq (⟨"LineMap$Search", "urgencyOf", "(I)I"⟩, 15) := ⟨⟨by decide +kernel, by decide +kernel⟩, List.mem_of_getElem? (i := 222) (by decide +kernel), List.mem_of_getElem? (i := 632) (by decide +kernel), List.mem_of_getElem? (i := 633) (by decide +kernel)⟩
theorem lw_p23 : lw_okq (⟨"LineMap$Search", "edgesToOrdered", "(I)I"⟩, 15) := ⟨⟨by decide +kernel, by decide +kernel⟩, List.mem_of_getElem? (i := 222) (by decide +kernel), List.mem_of_getElem? (i := 636) (by decide +kernel), List.mem_of_getElem? (i := 637) (by decide +kernel)⟩
theorem lw_p24 : lw_okq (⟨"LineMap$Search", "countRest", "()V"⟩, 15) := ⟨⟨by decide +kernel, by decide +kernel⟩, List.mem_of_getElem? (i := 222) (by decide +kernel), List.mem_of_getElem? (i := 640) (by decide +kernel), List.mem_of_getElem? (i := 641) (by decide +kernel)⟩
theorem lw_p25 : lw_okq (⟨"LineMap$Search", "descend", "(III)Z"⟩, 15) := ⟨⟨by decide +kernel, by decide +kernel⟩, List.mem_of_getElem? (i := 222) (by decide +kernel), List.mem_of_getElem? (i := 645) (by decide +kernel), List.mem_of_getElem? (i := 646) (by decide +kernel)⟩
theorem lw_p26 : lw_okq (⟨"LineMap$Search", "keep", "(I)Z"⟩, 15) := ⟨⟨by decide +kernel, by decide +kernel⟩, List.mem_of_getElem? (i := 222) (by decide +kernel), List.mem_of_getElem? (i := 649) (by decide +kernel), List.mem_of_getElem? (i := 650) (by decide +kernel)⟩
theorem lw_p27 : lw_okq (⟨"LineMap$Search", "openPoints", "(I)I"⟩, 15) := ⟨⟨by decide +kernel, by decide +kernel⟩, List.mem_of_getElem? (i := 222) (by decide +kernel), List.mem_of_getElem? (i := 653) (by decide +kernel), List.mem_of_getElem? (i := 654) (by decide +kernel)⟩
theorem lw_p28 : lw_okq (⟨"LineMap$Search", "flushPoints", "()I"⟩, 15) := ⟨⟨by decide +kernel, by decide +kernel⟩, List.mem_of_getElem? (i := 222) (by decide +kernel), List.mem_of_getElem? (i := 658) (by decide +kernel), List.mem_of_getElem? (i := 659) (by decide +kernel)⟩
theorem lw_p29 : lw_okq (⟨"LineMap$Price", "bendsAround", "(I)I"⟩, 3) := ⟨⟨by decide +kernel, by decide +kernel⟩, List.mem_of_getElem? (i := 206) (by decide +kernel), List.mem_of_getElem? (i := 669) (by decide +kernel), List.mem_of_getElem? (i := 670) (by decide +kernel)⟩
theorem lw_p30 : lw_okq (⟨"LineMap$Price", "isBendPlaced", "([II)Z"⟩, 3) := ⟨⟨by decide +kernel, by decide +kernel⟩, List.mem_of_getElem? (i := 206) (by decide +kernel), List.mem_of_getElem? (i := 675) (by decide +kernel), List.mem_of_getElem? (i := 676) (by decide +kernel)⟩
theorem lw_p31 : lw_okq (⟨"LineMap$Search", "passedPoints", "(III)I"⟩, 15) := ⟨⟨by decide +kernel, by decide +kernel⟩, List.mem_of_getElem? (i := 222) (by decide +kernel), List.mem_of_getElem? (i := 679) (by decide +kernel), List.mem_of_getElem? (i := 680) (by decide +kernel)⟩
def lw_privs_2 : List (MethodName × Nat) := [(⟨"LineMap$Law", "findTwisted", "()Z"⟩, 6), (⟨"LineMap$Law", "isRingTrue", "(I)Z"⟩, 6), (⟨"LineMap$Price", "bendAt", "(II)I"⟩, 3), (⟨"LineMap$Price", "turnOf", "(I)I"⟩, 3), (⟨"LineMap$Search", "lookRound", "(II)V"⟩, 15), (⟨"LineMap$Search", "arrange", "()V"⟩, 15), (⟨"LineMap$Search", "urgencyOf", "(I)I"⟩, 15), (⟨"LineMap$Search", "edgesToOrdered", "(I)I"⟩, 15), (⟨"LineMap$Search", "countRest", "()V"⟩, 15), (⟨"LineMap$Search", "descend", "(III)Z"⟩, 15), (⟨"LineMap$Search", "keep", "(I)Z"⟩, 15), (⟨"LineMap$Search", "openPoints", "(I)I"⟩, 15), (⟨"LineMap$Search", "flushPoints", "()I"⟩, 15), (⟨"LineMap$Price", "bendsAround", "(I)I"⟩, 3), (⟨"LineMap$Price", "isBendPlaced", "([II)Z"⟩, 3), (⟨"LineMap$Search", "passedPoints", "(III)I"⟩, 15)]
theorem lw_r2 : ∀ q ∈ lw_privs_2, lw_okq q := List.forall_mem_cons.mpr ⟨lw_p16, List.forall_mem_cons.mpr ⟨lw_p17, List.forall_mem_cons.mpr ⟨lw_p18, List.forall_mem_cons.mpr ⟨lw_p19, List.forall_mem_cons.mpr ⟨lw_p20, List.forall_mem_cons.mpr ⟨lw_p21, List.forall_mem_cons.mpr ⟨lw_p22, List.forall_mem_cons.mpr ⟨lw_p23, List.forall_mem_cons.mpr ⟨lw_p24, List.forall_mem_cons.mpr ⟨lw_p25, List.forall_mem_cons.mpr ⟨lw_p26, List.forall_mem_cons.mpr ⟨lw_p27, List.forall_mem_cons.mpr ⟨lw_p28, List.forall_mem_cons.mpr ⟨lw_p29, List.forall_mem_cons.mpr ⟨lw_p30, List.forall_mem_cons.mpr ⟨lw_p31, fun _ h => absurd h List.not_mem_nil⟩⟩⟩⟩⟩⟩⟩⟩⟩⟩⟩⟩⟩⟩⟩⟩
theorem lw_p32 : lw_okq (⟨"LineMap$Law", "isDrawn", "(I)Z"⟩, 6) := ⟨⟨by decide +kernel, by decide +kernel⟩, List.mem_of_getElem? (i := 178) (by decide +kernel), List.mem_of_getElem? (i := 688) (by decide +kernel), List.mem_of_getElem? (i := 689) (by decide +kernel)⟩
theorem lw_p33 : lw_okq (⟨"LineMap$Search", "settle", "(II)V"⟩, 15) := ⟨⟨by decide +kernel, by decide +kernel⟩, List.mem_of_getElem? (i := 222) (by decide +kernel), List.mem_of_getElem? (i := 696) (by decide +kernel), List.mem_of_getElem? (i := 697) (by decide +kernel)⟩
theorem lw_p34 : lw_okq (⟨"LineMap", "makeBestChange", "()Z"⟩, 10) := ⟨⟨by decide +kernel, by decide +kernel⟩, List.mem_of_getElem? (i := 13) (by decide +kernel), List.mem_of_getElem? (i := 704) (by decide +kernel), List.mem_of_getElem? (i := 705) (by decide +kernel)⟩
theorem lw_p35 : lw_okq (⟨"LineMap$Law", "isAlone", "(I)Z"⟩, 6) := ⟨⟨by decide +kernel, by decide +kernel⟩, List.mem_of_getElem? (i := 178) (by decide +kernel), List.mem_of_getElem? (i := 717) (by decide +kernel), List.mem_of_getElem? (i := 718) (by decide +kernel)⟩
theorem lw_p36 : lw_okq (⟨"LineMap$Law", "isOffEdges", "(I)Z"⟩, 6) := ⟨⟨by decide +kernel, by decide +kernel⟩, List.mem_of_getElem? (i := 178) (by decide +kernel), List.mem_of_getElem? (i := 721) (by decide +kernel), List.mem_of_getElem? (i := 722) (by decide +kernel)⟩
theorem lw_p37 : lw_okq (⟨"LineMap$Law", "areEdgesClear", "(I)Z"⟩, 6) := ⟨⟨by decide +kernel, by decide +kernel⟩, List.mem_of_getElem? (i := 178) (by decide +kernel), List.mem_of_getElem? (i := 725) (by decide +kernel), List.mem_of_getElem? (i := 726) (by decide +kernel)⟩
theorem lw_p38 : lw_okq (⟨"LineMap$Law", "isEdgeClear", "(II)Z"⟩, 6) := ⟨⟨by decide +kernel, by decide +kernel⟩, List.mem_of_getElem? (i := 178) (by decide +kernel), List.mem_of_getElem? (i := 729) (by decide +kernel), List.mem_of_getElem? (i := 730) (by decide +kernel)⟩
theorem lw_p39 : lw_okq (⟨"LineMap$Names", "layFreely", "(I)Z"⟩, 8) := ⟨⟨by decide +kernel, by decide +kernel⟩, List.mem_of_getElem? (i := 281) (by decide +kernel), List.mem_of_getElem? (i := 747) (by decide +kernel), List.mem_of_getElem? (i := 748) (by decide +kernel)⟩
theorem lw_p40 : lw_okq (⟨"LineMap$Names", "lay", "(II)V"⟩, 8) := ⟨⟨by decide +kernel, by decide +kernel⟩, List.mem_of_getElem? (i := 281) (by decide +kernel), List.mem_of_getElem? (i := 751) (by decide +kernel), List.mem_of_getElem? (i := 752) (by decide +kernel)⟩
theorem lw_p41 : lw_okq (⟨"LineMap$Names", "obstacle", "(I)I"⟩, 8) := ⟨⟨by decide +kernel, by decide +kernel⟩, List.mem_of_getElem? (i := 281) (by decide +kernel), List.mem_of_getElem? (i := 755) (by decide +kernel), List.mem_of_getElem? (i := 756) (by decide +kernel)⟩
theorem lw_p42 : lw_okq (⟨"LineMap$Names", "isUnder", "(III)Z"⟩, 8) := ⟨⟨by decide +kernel, by decide +kernel⟩, List.mem_of_getElem? (i := 281) (by decide +kernel), List.mem_of_getElem? (i := 759) (by decide +kernel), List.mem_of_getElem? (i := 760) (by decide +kernel)⟩
theorem lw_p43 : lw_okq (⟨"LineMap$Names", "isOnEdge", "(III)Z"⟩, 8) := ⟨⟨by decide +kernel, by decide +kernel⟩, List.mem_of_getElem? (i := 281) (by decide +kernel), List.mem_of_getElem? (i := 763) (by decide +kernel), List.mem_of_getElem? (i := 764) (by decide +kernel)⟩
theorem lw_p44 : lw_okq (⟨"LineMapModel", "ends", "(I)I"⟩, 32) := ⟨⟨by decide +kernel, by decide +kernel⟩, List.mem_of_getElem? (i := 799) (by decide +kernel), List.mem_of_getElem? (i := 909) (by decide +kernel), List.mem_of_getElem? (i := 910) (by decide +kernel)⟩
theorem lw_p45 : lw_okq (⟨"LineMapModel", "isStation", "(I)Z"⟩, 32) := ⟨⟨by decide +kernel, by decide +kernel⟩, List.mem_of_getElem? (i := 799) (by decide +kernel), List.mem_of_getElem? (i := 921) (by decide +kernel), List.mem_of_getElem? (i := 922) (by decide +kernel)⟩
theorem lw_p46 : lw_okq (⟨"LineMapModel", "finds", "()V"⟩, 32) := ⟨⟨by decide +kernel, by decide +kernel⟩, List.mem_of_getElem? (i := 799) (by decide +kernel), List.mem_of_getElem? (i := 925) (by decide +kernel), List.mem_of_getElem? (i := 926) (by decide +kernel)⟩
theorem lw_p47 : lw_okq (⟨"LineMapModel", "areLed", "(II)Z"⟩, 32) := ⟨⟨by decide +kernel, by decide +kernel⟩, List.mem_of_getElem? (i := 799) (by decide +kernel), List.mem_of_getElem? (i := 929) (by decide +kernel), List.mem_of_getElem? (i := 930) (by decide +kernel)⟩
def lw_privs_3 : List (MethodName × Nat) := [(⟨"LineMap$Law", "isDrawn", "(I)Z"⟩, 6), (⟨"LineMap$Search", "settle", "(II)V"⟩, 15), (⟨"LineMap", "makeBestChange", "()Z"⟩, 10), (⟨"LineMap$Law", "isAlone", "(I)Z"⟩, 6), (⟨"LineMap$Law", "isOffEdges", "(I)Z"⟩, 6), (⟨"LineMap$Law", "areEdgesClear", "(I)Z"⟩, 6), (⟨"LineMap$Law", "isEdgeClear", "(II)Z"⟩, 6), (⟨"LineMap$Names", "layFreely", "(I)Z"⟩, 8), (⟨"LineMap$Names", "lay", "(II)V"⟩, 8), (⟨"LineMap$Names", "obstacle", "(I)I"⟩, 8), (⟨"LineMap$Names", "isUnder", "(III)Z"⟩, 8), (⟨"LineMap$Names", "isOnEdge", "(III)Z"⟩, 8), (⟨"LineMapModel", "ends", "(I)I"⟩, 32), (⟨"LineMapModel", "isStation", "(I)Z"⟩, 32), (⟨"LineMapModel", "finds", "()V"⟩, 32), (⟨"LineMapModel", "areLed", "(II)Z"⟩, 32)]
theorem lw_r3 : ∀ q ∈ lw_privs_3, lw_okq q := List.forall_mem_cons.mpr ⟨lw_p32, List.forall_mem_cons.mpr ⟨lw_p33, List.forall_mem_cons.mpr ⟨lw_p34, List.forall_mem_cons.mpr ⟨lw_p35, List.forall_mem_cons.mpr ⟨lw_p36, List.forall_mem_cons.mpr ⟨lw_p37, List.forall_mem_cons.mpr ⟨lw_p38, List.forall_mem_cons.mpr ⟨lw_p39, List.forall_mem_cons.mpr ⟨lw_p40, List.forall_mem_cons.mpr ⟨lw_p41, List.forall_mem_cons.mpr ⟨lw_p42, List.forall_mem_cons.mpr ⟨lw_p43, List.forall_mem_cons.mpr ⟨lw_p44, List.forall_mem_cons.mpr ⟨lw_p45, List.forall_mem_cons.mpr ⟨lw_p46, List.forall_mem_cons.mpr ⟨lw_p47, fun _ h => absurd h List.not_mem_nil⟩⟩⟩⟩⟩⟩⟩⟩⟩⟩⟩⟩⟩⟩⟩⟩
theorem lw_p48 : lw_okq (⟨"LineMapModel", "trueDirection", "(II)I"⟩, 32) := ⟨⟨by decide +kernel, by decide +kernel⟩, List.mem_of_getElem? (i := 799) (by decide +kernel), List.mem_of_getElem? (i := 941) (by decide +kernel), List.mem_of_getElem? (i := 942) (by decide +kernel)⟩
theorem lw_p49 : lw_okq (⟨"LineMapModel", "rounds", "(I)V"⟩, 32) := ⟨⟨by decide +kernel, by decide +kernel⟩, List.mem_of_getElem? (i := 799) (by decide +kernel), List.mem_of_getElem? (i := 955) (by decide +kernel), List.mem_of_getElem? (i := 956) (by decide +kernel)⟩
theorem lw_p50 : lw_okq (⟨"LineMapModel", "isAhead", "(III)Z"⟩, 32) := ⟨⟨by decide +kernel, by decide +kernel⟩, List.mem_of_getElem? (i := 799) (by decide +kernel), List.mem_of_getElem? (i := 959) (by decide +kernel), List.mem_of_getElem? (i := 960) (by decide +kernel)⟩
theorem lw_p51 : lw_okq (⟨"LineMapModel", "half", "(II)I"⟩, 32) := ⟨⟨by decide +kernel, by decide +kernel⟩, List.mem_of_getElem? (i := 799) (by decide +kernel), List.mem_of_getElem? (i := 963) (by decide +kernel), List.mem_of_getElem? (i := 964) (by decide +kernel)⟩
theorem lw_p52 : lw_okq (⟨"LineMapModel", "whyNot", "()I"⟩, 32) := ⟨⟨by decide +kernel, by decide +kernel⟩, List.mem_of_getElem? (i := 799) (by decide +kernel), List.mem_of_getElem? (i := 995) (by decide +kernel), List.mem_of_getElem? (i := 996) (by decide +kernel)⟩
theorem lw_p53 : lw_okq (⟨"LineMapModel", "bars", "(III)I"⟩, 32) := ⟨⟨by decide +kernel, by decide +kernel⟩, List.mem_of_getElem? (i := 799) (by decide +kernel), List.mem_of_getElem? (i := 999) (by decide +kernel), List.mem_of_getElem? (i := 1000) (by decide +kernel)⟩
theorem lw_p54 : lw_okq (⟨"LineMapModel", "isStraight", "(II)Z"⟩, 32) := ⟨⟨by decide +kernel, by decide +kernel⟩, List.mem_of_getElem? (i := 799) (by decide +kernel), List.mem_of_getElem? (i := 1003) (by decide +kernel), List.mem_of_getElem? (i := 1004) (by decide +kernel)⟩
theorem lw_p55 : lw_okq (⟨"LineMapModel", "x", "(I)I"⟩, 32) := ⟨⟨by decide +kernel, by decide +kernel⟩, List.mem_of_getElem? (i := 799) (by decide +kernel), List.mem_of_getElem? (i := 1007) (by decide +kernel), List.mem_of_getElem? (i := 1008) (by decide +kernel)⟩
theorem lw_p56 : lw_okq (⟨"LineMapModel", "y", "(I)I"⟩, 32) := ⟨⟨by decide +kernel, by decide +kernel⟩, List.mem_of_getElem? (i := 799) (by decide +kernel), List.mem_of_getElem? (i := 1011) (by decide +kernel), List.mem_of_getElem? (i := 1012) (by decide +kernel)⟩
theorem lw_p57 : lw_okq (⟨"LineMapModel", "length", "(II)I"⟩, 32) := ⟨⟨by decide +kernel, by decide +kernel⟩, List.mem_of_getElem? (i := 799) (by decide +kernel), List.mem_of_getElem? (i := 1015) (by decide +kernel), List.mem_of_getElem? (i := 1016) (by decide +kernel)⟩
theorem lw_p58 : lw_okq (⟨"LineMapModel", "lies", "(III)Z"⟩, 32) := ⟨⟨by decide +kernel, by decide +kernel⟩, List.mem_of_getElem? (i := 799) (by decide +kernel), List.mem_of_getElem? (i := 1019) (by decide +kernel), List.mem_of_getElem? (i := 1020) (by decide +kernel)⟩
theorem lw_p59 : lw_okq (⟨"LineMapModel", "cross", "(III)I"⟩, 32) := ⟨⟨by decide +kernel, by decide +kernel⟩, List.mem_of_getElem? (i := 799) (by decide +kernel), List.mem_of_getElem? (i := 1023) (by decide +kernel), List.mem_of_getElem? (i := 1024) (by decide +kernel)⟩
theorem lw_p60 : lw_okq (⟨"LineMapModel", "meet", "(IIII)Z"⟩, 32) := ⟨⟨by decide +kernel, by decide +kernel⟩, List.mem_of_getElem? (i := 799) (by decide +kernel), List.mem_of_getElem? (i := 1030) (by decide +kernel), List.mem_of_getElem? (i := 1031) (by decide +kernel)⟩
theorem lw_p61 : lw_okq (⟨"LineMapModel", "direction", "(II)I"⟩, 32) := ⟨⟨by decide +kernel, by decide +kernel⟩, List.mem_of_getElem? (i := 799) (by decide +kernel), List.mem_of_getElem? (i := 1034) (by decide +kernel), List.mem_of_getElem? (i := 1035) (by decide +kernel)⟩
theorem lw_p62 : lw_okq (⟨"LineMapModel", "isTrueRound", "(I)Z"⟩, 32) := ⟨⟨by decide +kernel, by decide +kernel⟩, List.mem_of_getElem? (i := 799) (by decide +kernel), List.mem_of_getElem? (i := 1041) (by decide +kernel), List.mem_of_getElem? (i := 1042) (by decide +kernel)⟩
theorem lw_p63 : lw_okq (⟨"LineMapModel", "costOf", "()I"⟩, 32) := ⟨⟨by decide +kernel, by decide +kernel⟩, List.mem_of_getElem? (i := 799) (by decide +kernel), List.mem_of_getElem? (i := 1049) (by decide +kernel), List.mem_of_getElem? (i := 1050) (by decide +kernel)⟩
def lw_privs_4 : List (MethodName × Nat) := [(⟨"LineMapModel", "trueDirection", "(II)I"⟩, 32), (⟨"LineMapModel", "rounds", "(I)V"⟩, 32), (⟨"LineMapModel", "isAhead", "(III)Z"⟩, 32), (⟨"LineMapModel", "half", "(II)I"⟩, 32), (⟨"LineMapModel", "whyNot", "()I"⟩, 32), (⟨"LineMapModel", "bars", "(III)I"⟩, 32), (⟨"LineMapModel", "isStraight", "(II)Z"⟩, 32), (⟨"LineMapModel", "x", "(I)I"⟩, 32), (⟨"LineMapModel", "y", "(I)I"⟩, 32), (⟨"LineMapModel", "length", "(II)I"⟩, 32), (⟨"LineMapModel", "lies", "(III)Z"⟩, 32), (⟨"LineMapModel", "cross", "(III)I"⟩, 32), (⟨"LineMapModel", "meet", "(IIII)Z"⟩, 32), (⟨"LineMapModel", "direction", "(II)I"⟩, 32), (⟨"LineMapModel", "isTrueRound", "(I)Z"⟩, 32), (⟨"LineMapModel", "costOf", "()I"⟩, 32)]
theorem lw_r4 : ∀ q ∈ lw_privs_4, lw_okq q := List.forall_mem_cons.mpr ⟨lw_p48, List.forall_mem_cons.mpr ⟨lw_p49, List.forall_mem_cons.mpr ⟨lw_p50, List.forall_mem_cons.mpr ⟨lw_p51, List.forall_mem_cons.mpr ⟨lw_p52, List.forall_mem_cons.mpr ⟨lw_p53, List.forall_mem_cons.mpr ⟨lw_p54, List.forall_mem_cons.mpr ⟨lw_p55, List.forall_mem_cons.mpr ⟨lw_p56, List.forall_mem_cons.mpr ⟨lw_p57, List.forall_mem_cons.mpr ⟨lw_p58, List.forall_mem_cons.mpr ⟨lw_p59, List.forall_mem_cons.mpr ⟨lw_p60, List.forall_mem_cons.mpr ⟨lw_p61, List.forall_mem_cons.mpr ⟨lw_p62, List.forall_mem_cons.mpr ⟨lw_p63, fun _ h => absurd h List.not_mem_nil⟩⟩⟩⟩⟩⟩⟩⟩⟩⟩⟩⟩⟩⟩⟩⟩
theorem lw_p64 : lw_okq (⟨"LineMapModel", "bends", "()I"⟩, 32) := ⟨⟨by decide +kernel, by decide +kernel⟩, List.mem_of_getElem? (i := 799) (by decide +kernel), List.mem_of_getElem? (i := 1053) (by decide +kernel), List.mem_of_getElem? (i := 1054) (by decide +kernel)⟩
theorem lw_p65 : lw_okq (⟨"LineMapModel", "lengths", "()I"⟩, 32) := ⟨⟨by decide +kernel, by decide +kernel⟩, List.mem_of_getElem? (i := 799) (by decide +kernel), List.mem_of_getElem? (i := 1060) (by decide +kernel), List.mem_of_getElem? (i := 1061) (by decide +kernel)⟩
theorem lw_p66 : lw_okq (⟨"LineMapModel", "turns", "()I"⟩, 32) := ⟨⟨by decide +kernel, by decide +kernel⟩, List.mem_of_getElem? (i := 799) (by decide +kernel), List.mem_of_getElem? (i := 1064) (by decide +kernel), List.mem_of_getElem? (i := 1065) (by decide +kernel)⟩
theorem lw_p67 : lw_okq (⟨"LineMapModel", "begins", "(I)V"⟩, 32) := ⟨⟨by decide +kernel, by decide +kernel⟩, List.mem_of_getElem? (i := 799) (by decide +kernel), List.mem_of_getElem? (i := 1072) (by decide +kernel), List.mem_of_getElem? (i := 1073) (by decide +kernel)⟩
theorem lw_p68 : lw_okq (⟨"LineMapModel", "steps", "(I)Z"⟩, 32) := ⟨⟨by decide +kernel, by decide +kernel⟩, List.mem_of_getElem? (i := 799) (by decide +kernel), List.mem_of_getElem? (i := 1076) (by decide +kernel), List.mem_of_getElem? (i := 1077) (by decide +kernel)⟩
theorem lw_p69 : lw_okq (⟨"LineMapModel", "mayBe", "(I)Z"⟩, 32) := ⟨⟨by decide +kernel, by decide +kernel⟩, List.mem_of_getElem? (i := 799) (by decide +kernel), List.mem_of_getElem? (i := 1080) (by decide +kernel), List.mem_of_getElem? (i := 1081) (by decide +kernel)⟩
theorem lw_p70 : lw_okq (⟨"LineMapModel", "costTo", "(I)I"⟩, 32) := ⟨⟨by decide +kernel, by decide +kernel⟩, List.mem_of_getElem? (i := 799) (by decide +kernel), List.mem_of_getElem? (i := 1084) (by decide +kernel), List.mem_of_getElem? (i := 1085) (by decide +kernel)⟩
theorem lw_p71 : lw_okq (⟨"LineMapModel", "changes", "()Z"⟩, 32) := ⟨⟨by decide +kernel, by decide +kernel⟩, List.mem_of_getElem? (i := 799) (by decide +kernel), List.mem_of_getElem? (i := 1092) (by decide +kernel), List.mem_of_getElem? (i := 1093) (by decide +kernel)⟩
theorem lw_p72 : lw_okq (⟨"LineMapModel", "onPlace", "(II)I"⟩, 32) := ⟨⟨by decide +kernel, by decide +kernel⟩, List.mem_of_getElem? (i := 799) (by decide +kernel), List.mem_of_getElem? (i := 1104) (by decide +kernel), List.mem_of_getElem? (i := 1105) (by decide +kernel)⟩
theorem lw_p73 : lw_okq (⟨"LineMapModel", "nameX", "(II)I"⟩, 32) := ⟨⟨by decide +kernel, by decide +kernel⟩, List.mem_of_getElem? (i := 799) (by decide +kernel), List.mem_of_getElem? (i := 1108) (by decide +kernel), List.mem_of_getElem? (i := 1109) (by decide +kernel)⟩
theorem lw_p74 : lw_okq (⟨"LineMapModel", "nameY", "(II)I"⟩, 32) := ⟨⟨by decide +kernel, by decide +kernel⟩, List.mem_of_getElem? (i := 799) (by decide +kernel), List.mem_of_getElem? (i := 1112) (by decide +kernel), List.mem_of_getElem? (i := 1113) (by decide +kernel)⟩
theorem lw_p75 : lw_okq (⟨"LineMapModel", "isOnStation", "(III)Z"⟩, 32) := ⟨⟨by decide +kernel, by decide +kernel⟩, List.mem_of_getElem? (i := 799) (by decide +kernel), List.mem_of_getElem? (i := 1116) (by decide +kernel), List.mem_of_getElem? (i := 1117) (by decide +kernel)⟩
theorem lw_p76 : lw_okq (⟨"LineMapModel", "isOnName", "(III)Z"⟩, 32) := ⟨⟨by decide +kernel, by decide +kernel⟩, List.mem_of_getElem? (i := 799) (by decide +kernel), List.mem_of_getElem? (i := 1123) (by decide +kernel), List.mem_of_getElem? (i := 1124) (by decide +kernel)⟩
theorem lw_p77 : lw_okq (⟨"LineMapModel", "isOnEdge", "(III)Z"⟩, 32) := ⟨⟨by decide +kernel, by decide +kernel⟩, List.mem_of_getElem? (i := 799) (by decide +kernel), List.mem_of_getElem? (i := 1127) (by decide +kernel), List.mem_of_getElem? (i := 1128) (by decide +kernel)⟩
def lw_privs_5 : List (MethodName × Nat) := [(⟨"LineMapModel", "bends", "()I"⟩, 32), (⟨"LineMapModel", "lengths", "()I"⟩, 32), (⟨"LineMapModel", "turns", "()I"⟩, 32), (⟨"LineMapModel", "begins", "(I)V"⟩, 32), (⟨"LineMapModel", "steps", "(I)Z"⟩, 32), (⟨"LineMapModel", "mayBe", "(I)Z"⟩, 32), (⟨"LineMapModel", "costTo", "(I)I"⟩, 32), (⟨"LineMapModel", "changes", "()Z"⟩, 32), (⟨"LineMapModel", "onPlace", "(II)I"⟩, 32), (⟨"LineMapModel", "nameX", "(II)I"⟩, 32), (⟨"LineMapModel", "nameY", "(II)I"⟩, 32), (⟨"LineMapModel", "isOnStation", "(III)Z"⟩, 32), (⟨"LineMapModel", "isOnName", "(III)Z"⟩, 32), (⟨"LineMapModel", "isOnEdge", "(III)Z"⟩, 32)]
theorem lw_r5 : ∀ q ∈ lw_privs_5, lw_okq q := List.forall_mem_cons.mpr ⟨lw_p64, List.forall_mem_cons.mpr ⟨lw_p65, List.forall_mem_cons.mpr ⟨lw_p66, List.forall_mem_cons.mpr ⟨lw_p67, List.forall_mem_cons.mpr ⟨lw_p68, List.forall_mem_cons.mpr ⟨lw_p69, List.forall_mem_cons.mpr ⟨lw_p70, List.forall_mem_cons.mpr ⟨lw_p71, List.forall_mem_cons.mpr ⟨lw_p72, List.forall_mem_cons.mpr ⟨lw_p73, List.forall_mem_cons.mpr ⟨lw_p74, List.forall_mem_cons.mpr ⟨lw_p75, List.forall_mem_cons.mpr ⟨lw_p76, List.forall_mem_cons.mpr ⟨lw_p77, fun _ h => absurd h List.not_mem_nil⟩⟩⟩⟩⟩⟩⟩⟩⟩⟩⟩⟩⟩⟩
def lw_privs : List (MethodName × Nat) := lw_privs_1 ++ (lw_privs_2 ++ (lw_privs_3 ++ (lw_privs_4 ++ (lw_privs_5))))
def lw_tbl : List Cond := k2_sels lw_privs ++ tables_1
theorem lw_privs_ok : ∀ q ∈ lw_privs, lw_okq q := by
  show ∀ q ∈ lw_privs_1 ++ (lw_privs_2 ++ (lw_privs_3 ++ (lw_privs_4 ++ (lw_privs_5)))), lw_okq q
  exact List.forall_mem_append.mpr ⟨lw_r1, List.forall_mem_append.mpr ⟨lw_r2, List.forall_mem_append.mpr ⟨lw_r3, List.forall_mem_append.mpr ⟨lw_r4, lw_r5⟩⟩⟩⟩
def mm_T0 : u_T := fun k => match k with
  | 0 => ("LineMap$Law", "net", "LLineMap$Net;", true)
  | 1 => ("LineMap$Law", "plan", "LLineMap$Plan;", true)
  | 2 => ("LineMap$Law", "terms", "LLineMap$Terms;", true)
  | 3 => ("LineMap$Law", "fault", "I", false)
  | 4 => ("LineMap$Law", "first", "I", false)
  | _ => ("LineMap$Law", "second", "I", false)
def mm_ty0 : Nat → FieldType := fun k => match k with
  | 0 => .object "LineMap$Net"
  | 1 => .object "LineMap$Plan"
  | 2 => .object "LineMap$Terms"
  | 3 => .int
  | 4 => .int
  | _ => .int
theorem mm_nm0 : ∀ a, a < 6 → ∀ b, b < 6 → a ≠ b → (mm_T0 a).2.1 ≠ (mm_T0 b).2.1 := by decide +kernel
theorem mm_tok0 : ∀ k, k < 6 → parseFieldDescriptor (mm_T0 k).2.2.1 = some (mm_ty0 k) := by decide +kernel
def mm_T1 : u_T := fun k => match k with
  | 0 => ("LineMap$Names", "net", "LLineMap$Net;", true)
  | 1 => ("LineMap$Names", "plan", "LLineMap$Plan;", true)
  | 2 => ("LineMap$Names", "signs", "[I", true)
  | 3 => ("LineMap$Names", "side", "[I", true)
  | 4 => ("LineMap$Names", "hindrance", "[I", true)
  | 5 => ("LineMap$Names", "begin", "[I", true)
  | 6 => ("LineMap$Names", "end", "[I", true)
  | _ => ("LineMap$Names", "level", "[I", true)
def mm_ty1 : Nat → FieldType := fun k => match k with
  | 0 => .object "LineMap$Net"
  | 1 => .object "LineMap$Plan"
  | 2 => .array .int
  | 3 => .array .int
  | 4 => .array .int
  | 5 => .array .int
  | 6 => .array .int
  | _ => .array .int
theorem mm_nm1 : ∀ a, a < 8 → ∀ b, b < 8 → a ≠ b → (mm_T1 a).2.1 ≠ (mm_T1 b).2.1 := by decide +kernel
theorem mm_tok1 : ∀ k, k < 8 → parseFieldDescriptor (mm_T1 k).2.2.1 = some (mm_ty1 k) := by decide +kernel
def mm_T2 : u_T := fun k => match k with
  | 0 => ("LineMap$Net", "stations", "I", false)
  | 1 => ("LineMap$Net", "lines", "I", false)
  | 2 => ("LineMap$Net", "edges", "I", false)
  | 3 => ("LineMap$Net", "x", "[I", true)
  | 4 => ("LineMap$Net", "y", "[I", true)
  | 5 => ("LineMap$Net", "size", "[I", true)
  | 6 => ("LineMap$Net", "row", "[[I", true)
  | 7 => ("LineMap$Net", "rank", "[[I", true)
  | 8 => ("LineMap$Net", "low", "[I", true)
  | 9 => ("LineMap$Net", "high", "[I", true)
  | 10 => ("LineMap$Net", "heading", "[I", true)
  | 11 => ("LineMap$Net", "degree", "[I", true)
  | 12 => ("LineMap$Net", "ring", "[[I", true)
  | _ => ("LineMap$Net", "edgeOf", "[[I", true)
def mm_ty2 : Nat → FieldType := fun k => match k with
  | 0 => .int
  | 1 => .int
  | 2 => .int
  | 3 => .array .int
  | 4 => .array .int
  | 5 => .array .int
  | 6 => .array (.array .int)
  | 7 => .array (.array .int)
  | 8 => .array .int
  | 9 => .array .int
  | 10 => .array .int
  | 11 => .array .int
  | 12 => .array (.array .int)
  | _ => .array (.array .int)
theorem mm_nm2 : ∀ a, a < 14 → ∀ b, b < 14 → a ≠ b → (mm_T2 a).2.1 ≠ (mm_T2 b).2.1 := by decide +kernel
theorem mm_tok2 : ∀ k, k < 14 → parseFieldDescriptor (mm_T2 k).2.2.1 = some (mm_ty2 k) := by decide +kernel
def mm_T3 : u_T := fun k => match k with
  | 0 => ("LineMap$Plan", "w", "I", false)
  | 1 => ("LineMap$Plan", "h", "I", false)
  | 2 => ("LineMap$Plan", "x", "[I", true)
  | 3 => ("LineMap$Plan", "y", "[I", true)
  | _ => ("LineMap$Plan", "held", "[Z", true)
def mm_ty3 : Nat → FieldType := fun k => match k with
  | 0 => .int
  | 1 => .int
  | 2 => .array .int
  | 3 => .array .int
  | _ => .array .boolean
theorem mm_nm3 : ∀ a, a < 5 → ∀ b, b < 5 → a ≠ b → (mm_T3 a).2.1 ≠ (mm_T3 b).2.1 := by decide +kernel
theorem mm_tok3 : ∀ k, k < 5 → parseFieldDescriptor (mm_T3 k).2.2.1 = some (mm_ty3 k) := by decide +kernel
def mm_T4 : u_T := fun k => match k with
  | 0 => ("LineMap$Price", "net", "LLineMap$Net;", true)
  | 1 => ("LineMap$Price", "plan", "LLineMap$Plan;", true)
  | _ => ("LineMap$Price", "terms", "LLineMap$Terms;", true)
def mm_ty4 : Nat → FieldType := fun k => match k with
  | 0 => .object "LineMap$Net"
  | 1 => .object "LineMap$Plan"
  | _ => .object "LineMap$Terms"
theorem mm_nm4 : ∀ a, a < 3 → ∀ b, b < 3 → a ≠ b → (mm_T4 a).2.1 ≠ (mm_T4 b).2.1 := by decide +kernel
theorem mm_tok4 : ∀ k, k < 3 → parseFieldDescriptor (mm_T4 k).2.2.1 = some (mm_ty4 k) := by decide +kernel
def mm_T5 : u_T := fun k => match k with
  | 0 => ("LineMap$Search", "net", "LLineMap$Net;", true)
  | 1 => ("LineMap$Search", "terms", "LLineMap$Terms;", true)
  | 2 => ("LineMap$Search", "trial", "LLineMap$Plan;", true)
  | 3 => ("LineMap$Search", "law", "LLineMap$Law;", true)
  | 4 => ("LineMap$Search", "price", "LLineMap$Price;", true)
  | 5 => ("LineMap$Search", "reach", "[I", true)
  | 6 => ("LineMap$Search", "inside", "[[I", true)
  | 7 => ("LineMap$Search", "fixed", "[I", true)
  | 8 => ("LineMap$Search", "found", "[I", true)
  | 9 => ("LineMap$Search", "order", "[I", true)
  | 10 => ("LineMap$Search", "isOrdered", "[Z", true)
  | 11 => ("LineMap$Search", "rest", "[I", true)
  | 12 => ("LineMap$Search", "isAnyHeld", "Z", false)
  | 13 => ("LineMap$Search", "limit", "I", false)
  | _ => ("LineMap$Search", "enough", "I", false)
def mm_ty5 : Nat → FieldType := fun k => match k with
  | 0 => .object "LineMap$Net"
  | 1 => .object "LineMap$Terms"
  | 2 => .object "LineMap$Plan"
  | 3 => .object "LineMap$Law"
  | 4 => .object "LineMap$Price"
  | 5 => .array .int
  | 6 => .array (.array .int)
  | 7 => .array .int
  | 8 => .array .int
  | 9 => .array .int
  | 10 => .array .boolean
  | 11 => .array .int
  | 12 => .boolean
  | 13 => .int
  | _ => .int
theorem mm_nm5 : ∀ a, a < 15 → ∀ b, b < 15 → a ≠ b → (mm_T5 a).2.1 ≠ (mm_T5 b).2.1 := by decide +kernel
theorem mm_tok5 : ∀ k, k < 15 → parseFieldDescriptor (mm_T5 k).2.2.1 = some (mm_ty5 k) := by decide +kernel
def mm_T6 : u_T := fun k => match k with
  | 0 => ("LineMap$Terms", "perBend", "I", false)
  | 1 => ("LineMap$Terms", "perLength", "I", false)
  | 2 => ("LineMap$Terms", "perTurn", "I", false)
  | _ => ("LineMap$Terms", "least", "I", false)
def mm_ty6 : Nat → FieldType := fun k => match k with
  | 0 => .int
  | 1 => .int
  | 2 => .int
  | _ => .int
theorem mm_nm6 : ∀ a, a < 4 → ∀ b, b < 4 → a ≠ b → (mm_T6 a).2.1 ≠ (mm_T6 b).2.1 := by decide +kernel
theorem mm_tok6 : ∀ k, k < 4 → parseFieldDescriptor (mm_T6 k).2.2.1 = some (mm_ty6 k) := by decide +kernel
def mm_T7 : u_T := fun k => match k with
  | 0 => ("LineMap", "net", "LLineMap$Net;", true)
  | 1 => ("LineMap", "plan", "LLineMap$Plan;", true)
  | 2 => ("LineMap", "terms", "LLineMap$Terms;", true)
  | 3 => ("LineMap", "law", "LLineMap$Law;", true)
  | 4 => ("LineMap", "price", "LLineMap$Price;", true)
  | 5 => ("LineMap", "search", "LLineMap$Search;", true)
  | 6 => ("LineMap", "names", "LLineMap$Names;", true)
  | 7 => ("LineMap", "images", "[LLineMap$Plan;", true)
  | 8 => ("LineMap", "isImageKept", "[Z", true)
  | _ => ("LineMap", "refusal", "I", false)
def mm_ty7 : Nat → FieldType := fun k => match k with
  | 0 => .object "LineMap$Net"
  | 1 => .object "LineMap$Plan"
  | 2 => .object "LineMap$Terms"
  | 3 => .object "LineMap$Law"
  | 4 => .object "LineMap$Price"
  | 5 => .object "LineMap$Search"
  | 6 => .object "LineMap$Names"
  | 7 => .array (.object "LineMap$Plan")
  | 8 => .array .boolean
  | _ => .int
theorem mm_nm7 : ∀ a, a < 10 → ∀ b, b < 10 → a ≠ b → (mm_T7 a).2.1 ≠ (mm_T7 b).2.1 := by decide +kernel
theorem mm_tok7 : ∀ k, k < 10 → parseFieldDescriptor (mm_T7 k).2.2.1 = some (mm_ty7 k) := by decide +kernel
def mm_T8 : u_T := fun k => match k with
  | 0 => ("LineMapModel", "status", "I", false)
  | 1 => ("LineMapModel", "stations", "I", false)
  | 2 => ("LineMapModel", "lines", "I", false)
  | 3 => ("LineMapModel", "edges", "I", false)
  | 4 => ("LineMapModel", "trueX", "[I", true)
  | 5 => ("LineMapModel", "trueY", "[I", true)
  | 6 => ("LineMapModel", "lineSize", "[I", true)
  | 7 => ("LineMapModel", "lineOf", "[I", true)
  | 8 => ("LineMapModel", "edgeLow", "[I", true)
  | 9 => ("LineMapModel", "edgeHigh", "[I", true)
  | 10 => ("LineMapModel", "ring", "[I", true)
  | 11 => ("LineMapModel", "ringSize", "I", false)
  | 12 => ("LineMapModel", "wide", "I", false)
  | 13 => ("LineMapModel", "high", "I", false)
  | 14 => ("LineMapModel", "span", "I", false)
  | 15 => ("LineMapModel", "bend", "I", false)
  | 16 => ("LineMapModel", "way", "I", false)
  | 17 => ("LineMapModel", "turn", "I", false)
  | 18 => ("LineMapModel", "point", "[I", true)
  | 19 => ("LineMapModel", "isHeld", "[Z", true)
  | 20 => ("LineMapModel", "name", "[I", true)
  | 21 => ("LineMapModel", "whyOne", "I", false)
  | 22 => ("LineMapModel", "whyOther", "I", false)
  | 23 => ("LineMapModel", "before", "[I", true)
  | 24 => ("LineMapModel", "bestPoint", "[I", true)
  | 25 => ("LineMapModel", "isTried", "[Z", true)
  | 26 => ("LineMapModel", "put", "I", false)
  | 27 => ("LineMapModel", "namePlace", "[I", true)
  | 28 => ("LineMapModel", "hindered", "[I", true)
  | 29 => ("LineMapModel", "toldPlace", "[I", true)
  | 30 => ("LineMapModel", "isKept", "[Z", true)
  | _ => ("LineMapModel", "kept", "[I", true)
def mm_ty8 : Nat → FieldType := fun k => match k with
  | 0 => .int
  | 1 => .int
  | 2 => .int
  | 3 => .int
  | 4 => .array .int
  | 5 => .array .int
  | 6 => .array .int
  | 7 => .array .int
  | 8 => .array .int
  | 9 => .array .int
  | 10 => .array .int
  | 11 => .int
  | 12 => .int
  | 13 => .int
  | 14 => .int
  | 15 => .int
  | 16 => .int
  | 17 => .int
  | 18 => .array .int
  | 19 => .array .boolean
  | 20 => .array .int
  | 21 => .int
  | 22 => .int
  | 23 => .array .int
  | 24 => .array .int
  | 25 => .array .boolean
  | 26 => .int
  | 27 => .array .int
  | 28 => .array .int
  | 29 => .array .int
  | 30 => .array .boolean
  | _ => .array .int
theorem mm_nm8 : ∀ a, a < 32 → ∀ b, b < 32 → a ≠ b → (mm_T8 a).2.1 ≠ (mm_T8 b).2.1 := by decide +kernel
theorem mm_tok8 : ∀ k, k < 32 → parseFieldDescriptor (mm_T8 k).2.2.1 = some (mm_ty8 k) := by decide +kernel
abbrev mm_cl : List vw_C := [("LineMap$Law", mm_T0, 6), ("LineMap$Names", mm_T1, 8), ("LineMap$Net", mm_T2, 14), ("LineMap$Plan", mm_T3, 5), ("LineMap$Price", mm_T4, 3), ("LineMap$Search", mm_T5, 15), ("LineMap$Terms", mm_T6, 4), ("LineMap", mm_T7, 10), ("LineMapModel", mm_T8, 32)]
theorem mm_lay0 : ∀ w ∈ u_ws "LineMap$Law" mm_T0 6, w ∈ lw_tbl := fun w hw => by
  obtain ⟨i, -, hi⟩ := List.mem_filterMap.mp (show w ∈ [270, 272, 274, 276, 278, 280].filterMap (fun i => lw_tbl[i]?) from (show u_ws "LineMap$Law" mm_T0 6 = [270, 272, 274, 276, 278, 280].filterMap (fun i => lw_tbl[i]?) by decide +kernel) ▸ hw)
  exact List.mem_of_getElem? hi
theorem mm_ins0 : lw_tbl[256]? = some (.instantiable "LineMap$Law" 6) ∧ lw_tbl[84]? = some (.initialized "LineMap$Law") := by decide +kernel
def mm_def0 : List (Int32 ⊕ Option Nat) := [.inr none, .inr none, .inr none, .inl 0, .inl 0, .inl 0]
theorem mm_lay1 : ∀ w ∈ u_ws "LineMap$Names" mm_T1 8, w ∈ lw_tbl := fun w hw => by
  obtain ⟨i, -, hi⟩ := List.mem_filterMap.mp (show w ∈ [380, 382, 384, 386, 388, 390, 392, 394].filterMap (fun i => lw_tbl[i]?) from (show u_ws "LineMap$Names" mm_T1 8 = [380, 382, 384, 386, 388, 390, 392, 394].filterMap (fun i => lw_tbl[i]?) by decide +kernel) ▸ hw)
  exact List.mem_of_getElem? hi
theorem mm_ins1 : lw_tbl[359]? = some (.instantiable "LineMap$Names" 8) ∧ lw_tbl[87]? = some (.initialized "LineMap$Names") := by decide +kernel
def mm_def1 : List (Int32 ⊕ Option Nat) := [.inr none, .inr none, .inr none, .inr none, .inr none, .inr none, .inr none, .inr none]
theorem mm_lay2 : ∀ w ∈ u_ws "LineMap$Net" mm_T2 14, w ∈ lw_tbl := fun w hw => by
  obtain ⟨i, -, hi⟩ := List.mem_filterMap.mp (show w ∈ [159, 161, 163, 165, 167, 169, 171, 173, 175, 177, 179, 181, 183, 185].filterMap (fun i => lw_tbl[i]?) from (show u_ws "LineMap$Net" mm_T2 14 = [159, 161, 163, 165, 167, 169, 171, 173, 175, 177, 179, 181, 183, 185].filterMap (fun i => lw_tbl[i]?) by decide +kernel) ▸ hw)
  exact List.mem_of_getElem? hi
theorem mm_ins2 : lw_tbl[99]? = some (.instantiable "LineMap$Net" 14) ∧ lw_tbl[80]? = some (.initialized "LineMap$Net") := by decide +kernel
def mm_def2 : List (Int32 ⊕ Option Nat) := [.inl 0, .inl 0, .inl 0, .inr none, .inr none, .inr none, .inr none, .inr none, .inr none, .inr none, .inr none, .inr none, .inr none, .inr none]
theorem mm_lay3 : ∀ w ∈ u_ws "LineMap$Plan" mm_T3 5, w ∈ lw_tbl := fun w hw => by
  obtain ⟨i, -, hi⟩ := List.mem_filterMap.mp (show w ∈ [214, 216, 218, 220, 222].filterMap (fun i => lw_tbl[i]?) from (show u_ws "LineMap$Plan" mm_T3 5 = [214, 216, 218, 220, 222].filterMap (fun i => lw_tbl[i]?) by decide +kernel) ▸ hw)
  exact List.mem_of_getElem? hi
theorem mm_ins3 : lw_tbl[190]? = some (.instantiable "LineMap$Plan" 5) ∧ lw_tbl[82]? = some (.initialized "LineMap$Plan") := by decide +kernel
def mm_def3 : List (Int32 ⊕ Option Nat) := [.inl 0, .inl 0, .inr none, .inr none, .inr none]
theorem mm_lay4 : ∀ w ∈ u_ws "LineMap$Price" mm_T4 3, w ∈ lw_tbl := fun w hw => by
  obtain ⟨i, -, hi⟩ := List.mem_filterMap.mp (show w ∈ [292, 294, 296].filterMap (fun i => lw_tbl[i]?) from (show u_ws "LineMap$Price" mm_T4 3 = [292, 294, 296].filterMap (fun i => lw_tbl[i]?) by decide +kernel) ▸ hw)
  exact List.mem_of_getElem? hi
theorem mm_ins4 : lw_tbl[284]? = some (.instantiable "LineMap$Price" 3) ∧ lw_tbl[85]? = some (.initialized "LineMap$Price") := by decide +kernel
def mm_def4 : List (Int32 ⊕ Option Nat) := [.inr none, .inr none, .inr none]
theorem mm_lay5 : ∀ w ∈ u_ws "LineMap$Search" mm_T5 15, w ∈ lw_tbl := fun w hw => by
  obtain ⟨i, -, hi⟩ := List.mem_filterMap.mp (show w ∈ [327, 329, 331, 333, 335, 337, 339, 341, 343, 345, 347, 349, 351, 353, 355].filterMap (fun i => lw_tbl[i]?) from (show u_ws "LineMap$Search" mm_T5 15 = [327, 329, 331, 333, 335, 337, 339, 341, 343, 345, 347, 349, 351, 353, 355].filterMap (fun i => lw_tbl[i]?) by decide +kernel) ▸ hw)
  exact List.mem_of_getElem? hi
theorem mm_ins5 : lw_tbl[300]? = some (.instantiable "LineMap$Search" 15) ∧ lw_tbl[86]? = some (.initialized "LineMap$Search") := by decide +kernel
def mm_def5 : List (Int32 ⊕ Option Nat) := [.inr none, .inr none, .inr none, .inr none, .inr none, .inr none, .inr none, .inr none, .inr none, .inr none, .inr none, .inr none, .inl 0, .inl 0, .inl 0]
theorem mm_lay6 : ∀ w ∈ u_ws "LineMap$Terms" mm_T6 4, w ∈ lw_tbl := fun w hw => by
  obtain ⟨i, -, hi⟩ := List.mem_filterMap.mp (show w ∈ [246, 248, 250, 252].filterMap (fun i => lw_tbl[i]?) from (show u_ws "LineMap$Terms" mm_T6 4 = [246, 248, 250, 252].filterMap (fun i => lw_tbl[i]?) by decide +kernel) ▸ hw)
  exact List.mem_of_getElem? hi
theorem mm_ins6 : lw_tbl[227]? = some (.instantiable "LineMap$Terms" 4) ∧ lw_tbl[83]? = some (.initialized "LineMap$Terms") := by decide +kernel
def mm_def6 : List (Int32 ⊕ Option Nat) := [.inl 0, .inl 0, .inl 0, .inl 0]
theorem mm_lay7 : ∀ w ∈ u_ws "LineMap" mm_T7 10, w ∈ lw_tbl := fun w hw => by
  obtain ⟨i, -, hi⟩ := List.mem_filterMap.mp (show w ∈ [408, 410, 412, 414, 416, 418, 420, 422, 424, 426].filterMap (fun i => lw_tbl[i]?) from (show u_ws "LineMap" mm_T7 10 = [408, 410, 412, 414, 416, 418, 420, 422, 424, 426].filterMap (fun i => lw_tbl[i]?) by decide +kernel) ▸ hw)
  exact List.mem_of_getElem? hi
theorem mm_ins7 : lw_tbl[91]? = some (.instantiable "LineMap" 10) ∧ lw_tbl[79]? = some (.initialized "LineMap") := by decide +kernel
def mm_def7 : List (Int32 ⊕ Option Nat) := [.inr none, .inr none, .inr none, .inr none, .inr none, .inr none, .inr none, .inr none, .inr none, .inl 0]
theorem mm_lay8 : ∀ w ∈ u_ws "LineMapModel" mm_T8 32, w ∈ lw_tbl := fun w hw => by
  obtain ⟨i, -, hi⟩ := List.mem_filterMap.mp (show w ∈ [914, 916, 918, 920, 922, 924, 926, 928, 930, 932, 934, 936, 938, 940, 942, 944, 946, 948, 950, 952, 954, 956, 958, 960, 962, 964, 966, 968, 970, 972, 974, 976].filterMap (fun i => lw_tbl[i]?) from (show u_ws "LineMapModel" mm_T8 32 = [914, 916, 918, 920, 922, 924, 926, 928, 930, 932, 934, 936, 938, 940, 942, 944, 946, 948, 950, 952, 954, 956, 958, 960, 962, 964, 966, 968, 970, 972, 974, 976].filterMap (fun i => lw_tbl[i]?) by decide +kernel) ▸ hw)
  exact List.mem_of_getElem? hi
theorem mm_ins8 : lw_tbl[877]? = some (.instantiable "LineMapModel" 32) ∧ lw_tbl[88]? = some (.initialized "LineMapModel") := by decide +kernel
def mm_def8 : List (Int32 ⊕ Option Nat) := [.inl 0, .inl 0, .inl 0, .inl 0, .inr none, .inr none, .inr none, .inr none, .inr none, .inr none, .inr none, .inl 0, .inl 0, .inl 0, .inl 0, .inl 0, .inl 0, .inl 0, .inr none, .inr none, .inr none, .inl 0, .inl 0, .inr none, .inr none, .inr none, .inl 0, .inr none, .inr none, .inr none, .inr none, .inr none]
def mm_ns : List MethodName := [⟨"LineMap$Law", "<init>", "(LLineMap$Net;LLineMap$Plan;LLineMap$Terms;)V"⟩, ⟨"LineMap$Law", "isAllowed", "()Z"⟩, ⟨"LineMap$Law", "examine", "()V"⟩, ⟨"LineMap$Law", "blame", "(III)Z"⟩, ⟨"LineMap$Law", "findUnplaced", "()Z"⟩, ⟨"LineMap$Law", "findShared", "()Z"⟩, ⟨"LineMap$Law", "findCrooked", "()Z"⟩, ⟨"LineMap$Law", "findShort", "()Z"⟩, ⟨"LineMap$Law", "findCovered", "()Z"⟩, ⟨"LineMap$Law", "isOnEdge", "(II)Z"⟩, ⟨"LineMap$Law", "findCrossing", "()Z"⟩, ⟨"LineMap$Law", "findTwisted", "()Z"⟩, ⟨"LineMap$Law", "isRingTrue", "(I)Z"⟩, ⟨"LineMap$Law", "areEdgesGood", "(I)Z"⟩, ⟨"LineMap$Law", "fits", "(I)Z"⟩, ⟨"LineMap$Law", "isAlone", "(I)Z"⟩, ⟨"LineMap$Law", "isOffEdges", "(I)Z"⟩, ⟨"LineMap$Law", "isDrawn", "(I)Z"⟩, ⟨"LineMap$Law", "areEdgesClear", "(I)Z"⟩, ⟨"LineMap$Law", "isEdgeClear", "(II)Z"⟩, ⟨"LineMap$Law", "isCrossed", "(II)Z"⟩, ⟨"LineMap$Law", "areRingsTrue", "(I)Z"⟩, ⟨"LineMap$Names", "<init>", "(LLineMap$Net;LLineMap$Plan;)V"⟩, ⟨"LineMap$Names", "forget", "()V"⟩, ⟨"LineMap$Names", "putAll", "()I"⟩, ⟨"LineMap$Names", "layFreely", "(I)Z"⟩, ⟨"LineMap$Names", "lay", "(II)V"⟩, ⟨"LineMap$Names", "obstacle", "(I)I"⟩, ⟨"LineMap$Names", "isUnder", "(III)Z"⟩, ⟨"LineMap$Names", "isOnEdge", "(III)Z"⟩, ⟨"LineMap$Net", "<init>", "()V"⟩, ⟨"LineMap$Net", "isStation", "(I)Z"⟩, ⟨"LineMap$Net", "isLine", "(I)Z"⟩, ⟨"LineMap$Net", "hasStationAt", "(II)Z"⟩, ⟨"LineMap$Net", "addStation", "(II)I"⟩, ⟨"LineMap$Net", "addLine", "()I"⟩, ⟨"LineMap$Net", "extend", "(II)I"⟩, ⟨"LineMap$Net", "join", "(II)V"⟩, ⟨"LineMap$Net", "numberEdges", "()V"⟩, ⟨"LineMap$Net", "trueDirection", "(II)I"⟩, ⟨"LineMap$Net", "addToRing", "(II)V"⟩, ⟨"LineMap$Net", "comesBefore", "(III)Z"⟩, ⟨"LineMap$Net", "half", "(II)I"⟩, ⟨"LineMap$Plan", "<init>", "()V"⟩, ⟨"LineMap$Plan", "begin", "(II)V"⟩, ⟨"LineMap$Plan", "points", "()I"⟩, ⟨"LineMap$Plan", "isPlaced", "(I)Z"⟩, ⟨"LineMap$Plan", "where", "(I)I"⟩, ⟨"LineMap$Plan", "move", "(II)V"⟩, ⟨"LineMap$Plan", "copy", "(LLineMap$Plan;)V"⟩, ⟨"LineMap$Plan", "countPlaced", "()I"⟩, ⟨"LineMap$Plan", "countHeld", "()I"⟩, ⟨"LineMap$Plan", "directionTo", "(II)I"⟩, ⟨"LineMap$Plan", "distance", "(II)I"⟩, ⟨"LineMap$Plan", "isSamePoint", "(II)Z"⟩, ⟨"LineMap$Plan", "side", "(III)I"⟩, ⟨"LineMap$Plan", "liesBetween", "(III)Z"⟩, ⟨"LineMap$Plan", "isInSpan", "(III)Z"⟩, ⟨"LineMap$Plan", "isCrossing", "(IIII)Z"⟩, ⟨"LineMap$Price", "<init>", "(LLineMap$Net;LLineMap$Plan;LLineMap$Terms;)V"⟩, ⟨"LineMap$Price", "total", "()I"⟩, ⟨"LineMap$Price", "bends", "()I"⟩, ⟨"LineMap$Price", "lengths", "()I"⟩, ⟨"LineMap$Price", "turns", "()I"⟩, ⟨"LineMap$Price", "eighthsBetween", "(II)I"⟩, ⟨"LineMap$Price", "turnOf", "(I)I"⟩, ⟨"LineMap$Price", "bendAt", "(II)I"⟩, ⟨"LineMap$Price", "around", "(I)I"⟩, ⟨"LineMap$Price", "bendsAround", "(I)I"⟩, ⟨"LineMap$Price", "isBendPlaced", "([II)Z"⟩, ⟨"LineMap$Search", "<init>", "(LLineMap$Net;LLineMap$Terms;)V"⟩, ⟨"LineMap$Search", "findLeast", "(LLineMap$Plan;)I"⟩, ⟨"LineMap$Search", "lookRound", "(II)V"⟩, ⟨"LineMap$Search", "settle", "(II)V"⟩, ⟨"LineMap$Search", "arrange", "()V"⟩, ⟨"LineMap$Search", "urgencyOf", "(I)I"⟩, ⟨"LineMap$Search", "edgesToOrdered", "(I)I"⟩, ⟨"LineMap$Search", "countRest", "()V"⟩, ⟨"LineMap$Search", "descend", "(III)Z"⟩, ⟨"LineMap$Search", "keep", "(I)Z"⟩, ⟨"LineMap$Search", "openPoints", "(I)I"⟩, ⟨"LineMap$Search", "flushPoints", "()I"⟩, ⟨"LineMap$Search", "passedPoints", "(III)I"⟩, ⟨"LineMap$Terms", "<init>", "()V"⟩, ⟨"LineMap", "<init>", "()V"⟩, ⟨"LineMap", "station", "(II)I"⟩, ⟨"LineMap", "line", "()I"⟩, ⟨"LineMap", "lead", "(II)I"⟩, ⟨"LineMap", "of", "(II)I"⟩, ⟨"LineMap", "edge", "(II)I"⟩, ⟨"LineMap", "round", "(II)I"⟩, ⟨"LineMap", "grid", "(II)I"⟩, ⟨"LineMap", "span", "(I)I"⟩, ⟨"LineMap", "terms", "(III)I"⟩, ⟨"LineMap", "place", "(III)I"⟩, ⟨"LineMap", "point", "(I)I"⟩, ⟨"LineMap", "hold", "(IZ)I"⟩, ⟨"LineMap", "why", "(I)I"⟩, ⟨"LineMap", "cost", "(I)I"⟩, ⟨"LineMap", "best", "()I"⟩, ⟨"LineMap", "better", "()I"⟩, ⟨"LineMap", "name", "(II)I"⟩, ⟨"LineMap", "put", "()I"⟩, ⟨"LineMap", "named", "(II)I"⟩, ⟨"LineMap", "image", "(I)I"⟩, ⟨"LineMap", "back", "(I)I"⟩, ⟨"LineMap", "count", "(I)I"⟩, ⟨"LineMap", "status", "()I"⟩, ⟨"LineMap", "refuse", "(I)I"⟩, ⟨"LineMap", "accept", "(I)I"⟩, ⟨"LineMap", "isWithin", "(III)Z"⟩, ⟨"LineMap", "isWeight", "(I)Z"⟩, ⟨"LineMap", "makeBestChange", "()Z"⟩, ⟨"LineMapModel", "<init>", "()V"⟩, ⟨"LineMapModel", "in", "(III)Z"⟩, ⟨"LineMapModel", "ends", "(I)I"⟩, ⟨"LineMapModel", "isStation", "(I)Z"⟩, ⟨"LineMapModel", "station", "(II)I"⟩, ⟨"LineMapModel", "line", "()I"⟩, ⟨"LineMapModel", "lead", "(II)I"⟩, ⟨"LineMapModel", "of", "(II)I"⟩, ⟨"LineMapModel", "areLed", "(II)Z"⟩, ⟨"LineMapModel", "finds", "()V"⟩, ⟨"LineMapModel", "size", "(I)I"⟩, ⟨"LineMapModel", "aslant", "(II)I"⟩, ⟨"LineMapModel", "trueDirection", "(II)I"⟩, ⟨"LineMapModel", "edge", "(II)I"⟩, ⟨"LineMapModel", "half", "(II)I"⟩, ⟨"LineMapModel", "isAhead", "(III)Z"⟩, ⟨"LineMapModel", "rounds", "(I)V"⟩, ⟨"LineMapModel", "round", "(II)I"⟩, ⟨"LineMapModel", "grid", "(II)I"⟩, ⟨"LineMapModel", "span", "(I)I"⟩, ⟨"LineMapModel", "terms", "(III)I"⟩, ⟨"LineMapModel", "place", "(III)I"⟩, ⟨"LineMapModel", "point", "(I)I"⟩, ⟨"LineMapModel", "hold", "(IZ)I"⟩, ⟨"LineMapModel", "x", "(I)I"⟩, ⟨"LineMapModel", "y", "(I)I"⟩, ⟨"LineMapModel", "isStraight", "(II)Z"⟩, ⟨"LineMapModel", "length", "(II)I"⟩, ⟨"LineMapModel", "direction", "(II)I"⟩, ⟨"LineMapModel", "cross", "(III)I"⟩, ⟨"LineMapModel", "isBetween", "(III)Z"⟩, ⟨"LineMapModel", "lies", "(III)Z"⟩, ⟨"LineMapModel", "sign", "(I)I"⟩, ⟨"LineMapModel", "meet", "(IIII)Z"⟩, ⟨"LineMapModel", "bars", "(III)I"⟩, ⟨"LineMapModel", "whyNot", "()I"⟩, ⟨"LineMapModel", "isTrueRound", "(I)Z"⟩, ⟨"LineMapModel", "why", "(I)I"⟩, ⟨"LineMapModel", "apart", "(II)I"⟩, ⟨"LineMapModel", "bends", "()I"⟩, ⟨"LineMapModel", "lengths", "()I"⟩, ⟨"LineMapModel", "turns", "()I"⟩, ⟨"LineMapModel", "costOf", "()I"⟩, ⟨"LineMapModel", "cost", "(I)I"⟩, ⟨"LineMapModel", "mayBe", "(I)Z"⟩, ⟨"LineMapModel", "costTo", "(I)I"⟩, ⟨"LineMapModel", "best", "()I"⟩, ⟨"LineMapModel", "begins", "(I)V"⟩, ⟨"LineMapModel", "steps", "(I)Z"⟩, ⟨"LineMapModel", "better", "()I"⟩, ⟨"LineMapModel", "changes", "()Z"⟩, ⟨"LineMapModel", "name", "(II)I"⟩, ⟨"LineMapModel", "nameX", "(II)I"⟩, ⟨"LineMapModel", "nameY", "(II)I"⟩, ⟨"LineMapModel", "isOnStation", "(III)Z"⟩, ⟨"LineMapModel", "isOnEdge", "(III)Z"⟩, ⟨"LineMapModel", "isOnName", "(III)Z"⟩, ⟨"LineMapModel", "onPlace", "(II)I"⟩, ⟨"LineMapModel", "first", "(II)I"⟩, ⟨"LineMapModel", "put", "()I"⟩, ⟨"LineMapModel", "named", "(II)I"⟩, ⟨"LineMapModel", "image", "(I)I"⟩, ⟨"LineMapModel", "back", "(I)I"⟩, ⟨"LineMapModel", "count", "(I)I"⟩, ⟨"LineMapModel", "status", "()I"⟩, ⟨"java/util/Arrays", "fill", "([II)V"⟩, ⟨"LineMapLaw", "law", "([I)Z"⟩]
def mm_defs (c : Nat) : List (Int32 ⊕ Option Nat) := match c with
  | 0 => mm_def0
  | 1 => mm_def1
  | 2 => mm_def2
  | 3 => mm_def3
  | 4 => mm_def4
  | 5 => mm_def5
  | 6 => mm_def6
  | 7 => mm_def7
  | _ => mm_def8
end
section
/-! The little machine: values, cells, heap; one instruction as a condition; a run of a method as a condition (mm_wp); calls by depth (mm_Ev). -/
abbrev mm_V : Type := Int32 ⊕ Option Nat
abbrev mm_C : Type := (Nat × List mm_V) ⊕ ((Bool × List Int32) ⊕ (Bool × List (Option Nat)))
abbrev mm_H : Type := List mm_C
abbrev mm_E : Type := Nat × Instr × Nat × Nat × Nat × Nat × Nat
abbrev mm_M : Type := MethodName × ByteArray × Nat × Option FieldType × Nat × List mm_E × Nat × Nat × Nat × Nat × Nat
abbrev mm_R : Type := Nat → List mm_V → mm_H → Option Int32 → mm_H → Prop
abbrev mm_L : Type := List (Option mm_V)
abbrev mm_K : Type := Nat → mm_L → List mm_V → mm_H → Prop
abbrev mm_mn (M : mm_M) : MethodName := M.1
abbrev mm_mb (M : mm_M) : ByteArray := M.2.1
abbrev mm_ml (M : mm_M) : Nat := M.2.2.1
abbrev mm_mr (M : mm_M) : Option FieldType := M.2.2.2.1
abbrev mm_mc (M : mm_M) : Nat := M.2.2.2.2.1
abbrev mm_mk (M : mm_M) : List mm_E := M.2.2.2.2.2.1
abbrev mm_mw0 (M : mm_M) : Nat := M.2.2.2.2.2.2.1
abbrev mm_mw1 (M : mm_M) : Nat := M.2.2.2.2.2.2.2.1
abbrev mm_mw2 (M : mm_M) : Nat := M.2.2.2.2.2.2.2.2.1
abbrev mm_mw3 (M : mm_M) : Nat := M.2.2.2.2.2.2.2.2.2.1
abbrev mm_mq (M : mm_M) : Nat := M.2.2.2.2.2.2.2.2.2.2
/-! the check of the tables: what each instruction's numbers say is what the words say -/
def mm_fchk (cls : String) (i a b w : Nat) : Bool := match mm_cl[a]? with
  | some (_, T, N) => decide (b < N) && decide (lw_tbl[w]? = some (.fieldLink cls i (T b).1 (T b).2.1 (T b).2.2.1))
  | none => false
def mm_pchk (nm : MethodName) (a b c : Nat) : Bool := match mm_cl[a]? with
  | some (_, T, _) => match c with
    | 0 => decide ((T b).2.2.1 = "I") && !(T b).2.2.2
    | 1 => decide ((T b).2.2.1 = "Z") && !(T b).2.2.2
    | _ => decide (c = 2) && (T b).2.2.2 && decide ((T b).1 = nm.cls) && decide (nm.name = "<init>") && (match parseFieldDescriptor (T b).2.2.1 with | some t => t.isReference | none => false)
  | none => false
def mm_nchk (y : MethodName) (b : Nat) : Bool := decide ((parseMethodDescriptor y.desc).map (fun d => d.parameters.length) = some b)
def mm_chk (nm : MethodName) (bytes : ByteArray) (e : mm_E) : Bool := decide (decode bytes e.1 = .ok (e.2.1, e.2.2.1)) && match e with
  | (pc, .ifCond _ off, l, a, _, _, _) => decide ((pc : Int) + off = (a : Int)) && decide (l = 3)
  | (pc, .if_icmp _ off, l, a, _, _, _) => decide ((pc : Int) + off = (a : Int)) && decide (l = 3)
  | (pc, .goto off, l, a, _, _, _) => decide ((pc : Int) + off = (a : Int)) && decide (l = 3)
  | (_, .getfield i, l, a, b, _, w) => mm_fchk nm.cls i a b w && decide (l = 3)
  | (_, .putfield i, l, a, b, c, w) => mm_fchk nm.cls i a b w && mm_pchk nm a b c && decide (l = 3)
  | (_, .getstatic i, l, a, _, _, w) => decide (l = 3) && decide (nm.cls = "LineMap$Search") && ((decide (a = 1) && decide (i = 123)) || (decide (a = 2) && decide (i = 126)))
  | (_, .ldc i, l, a, _, _, w) => decide (l = 2) && decide (lw_tbl[w]? = some (.constant nm.cls i (Int32.ofNat a)))
  | (_, .new i, l, a, _, _, w) => decide (l = 3) && (match mm_cl[a]? with | some (C, _, N) => decide (lw_tbl[w]? = some (.classLink nm.cls i C)) && decide ((mm_defs a).length = N) | none => false)
  | (_, .anewarray i, l, _, _, _, w) => decide (l = 3) && decide (lw_tbl[w]? = some (.classLink nm.cls i "LineMap$Plan"))
  | (_, .multianewarray i d, l, _, _, _, w) => decide (l = 4) && decide (d = 2) && decide (lw_tbl[w]? = some (.classLink nm.cls i "[[I"))
  | (_, .invokevirtual i, l, a, b, c, w) => decide (l = 3) && (match mm_ns[a]? with | some y => decide (lw_tbl[w]? = some (.methodLink nm.cls i y)) && mm_nchk y b && decide ((mm_cl[c]?).map (fun q => q.1) = some y.cls) | none => false)
  | (_, .invokestatic i, l, a, b, c, w) => decide (l = 3) && (match mm_ns[a]? with | some y => (match c with
    | 0 => mm_nchk y b && decide (lw_tbl[w]? = some (.methodLink nm.cls i y))
    | 10 => decide (lw_tbl[w]? = some (.methodLink nm.cls i Lib.Math.abs.name))
    | 11 => decide (lw_tbl[w]? = some (.methodLink nm.cls i Lib.Math.max.name))
    | 12 => decide (lw_tbl[w]? = some (.methodLink nm.cls i Lib.Math.min.name))
    | _ => mm_nchk y b && decide (nm.cls = "LineMap$Search") && decide (i = 129) && decide (y = ⟨"LineMap", "isWithin", "(III)Z"⟩)) | none => false)
  | (_, .invokespecial i, l, a, b, c, w) => decide (l = 3) && (match c with
    | 2 => decide (lw_tbl[w]? = some (.methodLink nm.cls i objectInit))
    | 0 => (match mm_ns[a]? with | some y => mm_nchk y b && decide (lw_tbl[w]? = some (.methodLink nm.cls i y)) && decide (y.name = "<init>") | none => false)
    | _ => (match mm_ns[a]? with | some y => mm_nchk y b && decide (nm.cls = "LineMap") && decide (i = 25) && decide (y = ⟨"LineMap$Terms", "<init>", "()V"⟩) | none => false))
  | (_, i, l, _, _, _, _) => match i with
    | .bipush _ | .iload _ | .istore _ | .newarray _ => decide (l = 2)
    | .sipush _ | .iinc _ _ => decide (l = 3)
    | .tableswitch _ _ _ _ => true
    | _ => decide (l = 1)
def mm_mchk (M : mm_M) : Bool := (mm_mk M).all (mm_chk (mm_mn M) (mm_mb M)) && decide (mm_ml M ≤ 40) && decide (lw_tbl[mm_mw3 M]? = some (.initialized (mm_mn M).cls)) && decide (lw_tbl[mm_mw0 M]? = some (.code (mm_mn M) (mm_mb M) (mm_ml M) (mm_mr M))) && plainName (mm_mn M).cls && decide ((mm_mn M).cls ≠ "java/lang/invoke/MethodHandle") && decide ((mm_mn M).cls ≠ "java/lang/invoke/VarHandle") && (match mm_mq M with
    | 0 => decide (lw_tbl[mm_mw1 M]? = some (.instanceMethod (mm_mn M))) && decide (lw_tbl[mm_mw2 M]? = some (.selects (mm_mn M).cls (mm_mn M) (mm_mn M)))
    | 1 => decide (lw_tbl[mm_mw1 M]? = some (.static (mm_mn M)))
    | _ => decide (lw_tbl[mm_mw1 M]? = some (.instanceMethod (mm_mn M))))
end
section
/-- LineMap$Law.<init>(LLineMap$Net;LLineMap$Plan;LLineMap$Terms;)V -/
def mm_k0 : List mm_E := [(0, .aload_n 0, 1, 0, 0, 0, 0), (1, .invokespecial 3, 3, 0, 0, 2, 260), (4, .aload_n 0, 1, 0, 0, 0, 0), (5, .aload_n 1, 1, 0, 0, 0, 0), (6, .putfield 9, 3, 0, 0, 2, 261), (9, .aload_n 0, 1, 0, 0, 0, 0), (10, .aload_n 2, 1, 0, 0, 0, 0), (11, .putfield 15, 3, 0, 1, 2, 262), (14, .aload_n 0, 1, 0, 0, 0, 0), (15, .aload_n 3, 1, 0, 0, 0, 0), (16, .putfield 19, 3, 0, 2, 2, 263), (19, .return_, 1, 0, 0, 0, 0)]
def mm_m0 : mm_M := (⟨"LineMap$Law", "<init>", "(LLineMap$Net;LLineMap$Plan;LLineMap$Terms;)V"⟩, prog_2_method_1_code, 4, none, 0, mm_k0, 259, 258, 0, 84, 2)
theorem mm_c0 : mm_mchk mm_m0 = true := by decide +kernel
/-- LineMap$Law.isAllowed()Z -/
def mm_k1 : List mm_E := [(0, .aload_n 0, 1, 0, 0, 0, 0), (1, .invokevirtual 23, 3, 2, 0, 0, 645), (4, .aload_n 0, 1, 0, 0, 0, 0), (5, .getfield 26, 3, 0, 3, 0, 264), (8, .ifCond .ne 7, 3, 15, 0, 0, 0), (11, .iconst 1, 1, 0, 0, 0, 0), (12, .goto 4, 3, 16, 0, 0, 0), (15, .iconst 0, 1, 0, 0, 0, 0), (16, .ireturn, 1, 0, 0, 0, 0)]
def mm_m1 : mm_M := (⟨"LineMap$Law", "isAllowed", "()Z"⟩, prog_2_method_2_code, 1, some .boolean, 0, mm_k1, 644, 642, 643, 84, 0)
theorem mm_c1 : mm_mchk mm_m1 = true := by decide +kernel
/-- LineMap$Law.examine()V -/
def mm_k2 : List mm_E := [(0, .aload_n 0, 1, 0, 0, 0, 0), (1, .invokevirtual 30, 3, 4, 0, 0, 562), (4, .ifCond .ne 45, 3, 49, 0, 0, 0), (7, .aload_n 0, 1, 0, 0, 0, 0), (8, .invokevirtual 34, 3, 5, 0, 0, 571), (11, .ifCond .ne 38, 3, 49, 0, 0, 0), (14, .aload_n 0, 1, 0, 0, 0, 0), (15, .invokevirtual 37, 3, 6, 0, 0, 579), (18, .ifCond .ne 31, 3, 49, 0, 0, 0), (21, .aload_n 0, 1, 0, 0, 0, 0), (22, .invokevirtual 40, 3, 7, 0, 0, 587), (25, .ifCond .ne 24, 3, 49, 0, 0, 0), (28, .aload_n 0, 1, 0, 0, 0, 0), (29, .invokevirtual 43, 3, 8, 0, 0, 599), (32, .ifCond .ne 17, 3, 49, 0, 0, 0), (35, .aload_n 0, 1, 0, 0, 0, 0), (36, .invokevirtual 46, 3, 10, 0, 0, 621), (39, .ifCond .ne 10, 3, 49, 0, 0, 0), (42, .aload_n 0, 1, 0, 0, 0, 0), (43, .invokevirtual 49, 3, 11, 0, 0, 629), (46, .ifCond .eq 7, 3, 53, 0, 0, 0), (49, .iconst 1, 1, 0, 0, 0, 0), (50, .goto 4, 3, 54, 0, 0, 0), (53, .iconst 0, 1, 0, 0, 0, 0), (54, .istore_n 1, 1, 0, 0, 0, 0), (55, .iload_n 1, 1, 0, 0, 0, 0), (56, .ifCond .ne 11, 3, 67, 0, 0, 0), (59, .aload_n 0, 1, 0, 0, 0, 0), (60, .iconst 0, 1, 0, 0, 0, 0), (61, .iconst (-1), 1, 0, 0, 0, 0), (62, .iconst (-1), 1, 0, 0, 0, 0), (63, .invokevirtual 52, 3, 3, 3, 0, 567), (66, .pop, 1, 0, 0, 0, 0), (67, .return_, 1, 0, 0, 0, 0)]
def mm_m2 : mm_M := (⟨"LineMap$Law", "examine", "()V"⟩, prog_2_method_3_code, 2, none, 0, mm_k2, 561, 559, 560, 84, 0)
theorem mm_c2 : mm_mchk mm_m2 = true := by decide +kernel
/-- LineMap$Law.blame(III)Z -/
def mm_k3 : List mm_E := [(0, .aload_n 0, 1, 0, 0, 0, 0), (1, .iload_n 1, 1, 0, 0, 0, 0), (2, .putfield 26, 3, 0, 3, 0, 264), (5, .aload_n 0, 1, 0, 0, 0, 0), (6, .iload_n 2, 1, 0, 0, 0, 0), (7, .putfield 56, 3, 0, 4, 0, 266), (10, .aload_n 0, 1, 0, 0, 0, 0), (11, .iload_n 3, 1, 0, 0, 0, 0), (12, .putfield 59, 3, 0, 5, 0, 268), (15, .iconst 1, 1, 0, 0, 0, 0), (16, .ireturn, 1, 0, 0, 0, 0)]
def mm_m3 : mm_M := (⟨"LineMap$Law", "blame", "(III)Z"⟩, prog_2_method_4_code, 4, some .boolean, 0, mm_k3, 570, 569, 8, 84, 0)
theorem mm_c3 : mm_mchk mm_m3 = true := by decide +kernel
/-- LineMap$Law.findUnplaced()Z -/
def mm_k4 : List mm_E := [(0, .iconst 0, 1, 0, 0, 0, 0), (1, .istore_n 1, 1, 0, 0, 0, 0), (2, .iload_n 1, 1, 0, 0, 0, 0), (3, .aload_n 0, 1, 0, 0, 0, 0), (4, .getfield 9, 3, 0, 0, 0, 261), (7, .getfield 62, 3, 2, 0, 0, 113), (10, .if_icmp .ge 28, 3, 38, 0, 0, 0), (13, .aload_n 0, 1, 0, 0, 0, 0), (14, .getfield 15, 3, 0, 1, 0, 262), (17, .iload_n 1, 1, 0, 0, 0, 0), (18, .invokevirtual 67, 3, 46, 1, 3, 566), (21, .ifCond .ne 11, 3, 32, 0, 0, 0), (24, .aload_n 0, 1, 0, 0, 0, 0), (25, .iconst 1, 1, 0, 0, 0, 0), (26, .iload_n 1, 1, 0, 0, 0, 0), (27, .iconst (-1), 1, 0, 0, 0, 0), (28, .invokevirtual 52, 3, 3, 3, 0, 567), (31, .ireturn, 1, 0, 0, 0, 0), (32, .iinc 1 1, 3, 0, 0, 0, 0), (35, .goto (-33), 3, 2, 0, 0, 0), (38, .iconst 0, 1, 0, 0, 0, 0), (39, .ireturn, 1, 0, 0, 0, 0)]
def mm_m4 : mm_M := (⟨"LineMap$Law", "findUnplaced", "()Z"⟩, prog_2_method_5_code, 2, some .boolean, 0, mm_k4, 565, 564, 7, 84, 0)
theorem mm_c4 : mm_mchk mm_m4 = true := by decide +kernel
/-- LineMap$Law.findShared()Z -/
def mm_k5 : List mm_E := [(0, .iconst 0, 1, 0, 0, 0, 0), (1, .istore_n 1, 1, 0, 0, 0, 0), (2, .iload_n 1, 1, 0, 0, 0, 0), (3, .aload_n 0, 1, 0, 0, 0, 0), (4, .getfield 9, 3, 0, 0, 0, 261), (7, .getfield 62, 3, 2, 0, 0, 113), (10, .if_icmp .ge 50, 3, 60, 0, 0, 0), (13, .iload_n 1, 1, 0, 0, 0, 0), (14, .iconst 1, 1, 0, 0, 0, 0), (15, .iadd, 1, 0, 0, 0, 0), (16, .istore_n 2, 1, 0, 0, 0, 0), (17, .iload_n 2, 1, 0, 0, 0, 0), (18, .aload_n 0, 1, 0, 0, 0, 0), (19, .getfield 9, 3, 0, 0, 0, 261), (22, .getfield 62, 3, 2, 0, 0, 113), (25, .if_icmp .ge 29, 3, 54, 0, 0, 0), (28, .aload_n 0, 1, 0, 0, 0, 0), (29, .getfield 15, 3, 0, 1, 0, 262), (32, .iload_n 1, 1, 0, 0, 0, 0), (33, .iload_n 2, 1, 0, 0, 0, 0), (34, .invokevirtual 73, 3, 54, 2, 3, 575), (37, .ifCond .eq 11, 3, 48, 0, 0, 0), (40, .aload_n 0, 1, 0, 0, 0, 0), (41, .iconst 2, 1, 0, 0, 0, 0), (42, .iload_n 1, 1, 0, 0, 0, 0), (43, .iload_n 2, 1, 0, 0, 0, 0), (44, .invokevirtual 52, 3, 3, 3, 0, 567), (47, .ireturn, 1, 0, 0, 0, 0), (48, .iinc 2 1, 3, 0, 0, 0, 0), (51, .goto (-34), 3, 17, 0, 0, 0), (54, .iinc 1 1, 3, 0, 0, 0, 0), (57, .goto (-55), 3, 2, 0, 0, 0), (60, .iconst 0, 1, 0, 0, 0, 0), (61, .ireturn, 1, 0, 0, 0, 0)]
def mm_m5 : mm_M := (⟨"LineMap$Law", "findShared", "()Z"⟩, prog_2_method_6_code, 3, some .boolean, 0, mm_k5, 574, 573, 9, 84, 0)
theorem mm_c5 : mm_mchk mm_m5 = true := by decide +kernel
/-- LineMap$Law.findCrooked()Z -/
def mm_k6 : List mm_E := [(0, .iconst 0, 1, 0, 0, 0, 0), (1, .istore_n 1, 1, 0, 0, 0, 0), (2, .iload_n 1, 1, 0, 0, 0, 0), (3, .aload_n 0, 1, 0, 0, 0, 0), (4, .getfield 9, 3, 0, 0, 0, 261), (7, .getfield 77, 3, 2, 2, 0, 120), (10, .if_icmp .ge 46, 3, 56, 0, 0, 0), (13, .aload_n 0, 1, 0, 0, 0, 0), (14, .getfield 15, 3, 0, 1, 0, 262), (17, .aload_n 0, 1, 0, 0, 0, 0), (18, .getfield 9, 3, 0, 0, 0, 261), (21, .getfield 80, 3, 2, 8, 0, 138), (24, .iload_n 1, 1, 0, 0, 0, 0), (25, .iaload, 1, 0, 0, 0, 0), (26, .aload_n 0, 1, 0, 0, 0, 0), (27, .getfield 9, 3, 0, 0, 0, 261), (30, .getfield 84, 3, 2, 9, 0, 143), (33, .iload_n 1, 1, 0, 0, 0, 0), (34, .iaload, 1, 0, 0, 0, 0), (35, .invokevirtual 87, 3, 52, 2, 3, 583), (38, .iconst (-1), 1, 0, 0, 0, 0), (39, .if_icmp .ne 11, 3, 50, 0, 0, 0), (42, .aload_n 0, 1, 0, 0, 0, 0), (43, .iconst 3, 1, 0, 0, 0, 0), (44, .iload_n 1, 1, 0, 0, 0, 0), (45, .iconst (-1), 1, 0, 0, 0, 0), (46, .invokevirtual 52, 3, 3, 3, 0, 567), (49, .ireturn, 1, 0, 0, 0, 0), (50, .iinc 1 1, 3, 0, 0, 0, 0), (53, .goto (-51), 3, 2, 0, 0, 0), (56, .iconst 0, 1, 0, 0, 0, 0), (57, .ireturn, 1, 0, 0, 0, 0)]
def mm_m6 : mm_M := (⟨"LineMap$Law", "findCrooked", "()Z"⟩, prog_2_method_7_code, 2, some .boolean, 0, mm_k6, 582, 581, 10, 84, 0)
theorem mm_c6 : mm_mchk mm_m6 = true := by decide +kernel
/-- LineMap$Law.findShort()Z -/
def mm_k7 : List mm_E := [(0, .iconst 0, 1, 0, 0, 0, 0), (1, .istore_n 1, 1, 0, 0, 0, 0), (2, .iload_n 1, 1, 0, 0, 0, 0), (3, .aload_n 0, 1, 0, 0, 0, 0), (4, .getfield 9, 3, 0, 0, 0, 261), (7, .getfield 77, 3, 2, 2, 0, 120), (10, .if_icmp .ge 52, 3, 62, 0, 0, 0), (13, .aload_n 0, 1, 0, 0, 0, 0), (14, .getfield 15, 3, 0, 1, 0, 262), (17, .aload_n 0, 1, 0, 0, 0, 0), (18, .getfield 9, 3, 0, 0, 0, 261), (21, .getfield 80, 3, 2, 8, 0, 138), (24, .iload_n 1, 1, 0, 0, 0, 0), (25, .iaload, 1, 0, 0, 0, 0), (26, .aload_n 0, 1, 0, 0, 0, 0), (27, .getfield 9, 3, 0, 0, 0, 261), (30, .getfield 84, 3, 2, 9, 0, 143), (33, .iload_n 1, 1, 0, 0, 0, 0), (34, .iaload, 1, 0, 0, 0, 0), (35, .invokevirtual 91, 3, 53, 2, 3, 591), (38, .aload_n 0, 1, 0, 0, 0, 0), (39, .getfield 19, 3, 0, 2, 0, 263), (42, .getfield 94, 3, 6, 3, 0, 244), (45, .if_icmp .ge 11, 3, 56, 0, 0, 0), (48, .aload_n 0, 1, 0, 0, 0, 0), (49, .iconst 4, 1, 0, 0, 0, 0), (50, .iload_n 1, 1, 0, 0, 0, 0), (51, .iconst (-1), 1, 0, 0, 0, 0), (52, .invokevirtual 52, 3, 3, 3, 0, 567), (55, .ireturn, 1, 0, 0, 0, 0), (56, .iinc 1 1, 3, 0, 0, 0, 0), (59, .goto (-57), 3, 2, 0, 0, 0), (62, .iconst 0, 1, 0, 0, 0, 0), (63, .ireturn, 1, 0, 0, 0, 0)]
def mm_m7 : mm_M := (⟨"LineMap$Law", "findShort", "()Z"⟩, prog_2_method_8_code, 2, some .boolean, 0, mm_k7, 590, 589, 11, 84, 0)
theorem mm_c7 : mm_mchk mm_m7 = true := by decide +kernel
/-- LineMap$Law.findCovered()Z -/
def mm_k8 : List mm_E := [(0, .iconst 0, 1, 0, 0, 0, 0), (1, .istore_n 1, 1, 0, 0, 0, 0), (2, .iload_n 1, 1, 0, 0, 0, 0), (3, .aload_n 0, 1, 0, 0, 0, 0), (4, .getfield 9, 3, 0, 0, 0, 261), (7, .getfield 77, 3, 2, 2, 0, 120), (10, .if_icmp .ge 45, 3, 55, 0, 0, 0), (13, .iconst 0, 1, 0, 0, 0, 0), (14, .istore_n 2, 1, 0, 0, 0, 0), (15, .iload_n 2, 1, 0, 0, 0, 0), (16, .aload_n 0, 1, 0, 0, 0, 0), (17, .getfield 9, 3, 0, 0, 0, 261), (20, .getfield 62, 3, 2, 0, 0, 113), (23, .if_icmp .ge 26, 3, 49, 0, 0, 0), (26, .aload_n 0, 1, 0, 0, 0, 0), (27, .iload_n 2, 1, 0, 0, 0, 0), (28, .iload_n 1, 1, 0, 0, 0, 0), (29, .invokevirtual 99, 3, 9, 2, 0, 603), (32, .ifCond .eq 11, 3, 43, 0, 0, 0), (35, .aload_n 0, 1, 0, 0, 0, 0), (36, .iconst 5, 1, 0, 0, 0, 0), (37, .iload_n 1, 1, 0, 0, 0, 0), (38, .iload_n 2, 1, 0, 0, 0, 0), (39, .invokevirtual 52, 3, 3, 3, 0, 567), (42, .ireturn, 1, 0, 0, 0, 0), (43, .iinc 2 1, 3, 0, 0, 0, 0), (46, .goto (-31), 3, 15, 0, 0, 0), (49, .iinc 1 1, 3, 0, 0, 0, 0), (52, .goto (-50), 3, 2, 0, 0, 0), (55, .iconst 0, 1, 0, 0, 0, 0), (56, .ireturn, 1, 0, 0, 0, 0)]
def mm_m8 : mm_M := (⟨"LineMap$Law", "findCovered", "()Z"⟩, prog_2_method_9_code, 3, some .boolean, 0, mm_k8, 602, 601, 12, 84, 0)
theorem mm_c8 : mm_mchk mm_m8 = true := by decide +kernel
/-- LineMap$Law.isOnEdge(II)Z -/
def mm_k9 : List mm_E := [(0, .aload_n 0, 1, 0, 0, 0, 0), (1, .getfield 9, 3, 0, 0, 0, 261), (4, .getfield 80, 3, 2, 8, 0, 138), (7, .iload_n 2, 1, 0, 0, 0, 0), (8, .iaload, 1, 0, 0, 0, 0), (9, .istore_n 3, 1, 0, 0, 0, 0), (10, .aload_n 0, 1, 0, 0, 0, 0), (11, .getfield 9, 3, 0, 0, 0, 261), (14, .getfield 84, 3, 2, 9, 0, 143), (17, .iload_n 2, 1, 0, 0, 0, 0), (18, .iaload, 1, 0, 0, 0, 0), (19, .istore 4, 2, 0, 0, 0, 0), (21, .iload_n 1, 1, 0, 0, 0, 0), (22, .iload_n 3, 1, 0, 0, 0, 0), (23, .if_icmp .eq 27, 3, 50, 0, 0, 0), (26, .iload_n 1, 1, 0, 0, 0, 0), (27, .iload 4, 2, 0, 0, 0, 0), (29, .if_icmp .eq 21, 3, 50, 0, 0, 0), (32, .aload_n 0, 1, 0, 0, 0, 0), (33, .getfield 15, 3, 0, 1, 0, 262), (36, .iload_n 1, 1, 0, 0, 0, 0), (37, .iload_n 3, 1, 0, 0, 0, 0), (38, .iload 4, 2, 0, 0, 0, 0), (40, .invokevirtual 102, 3, 56, 3, 3, 607), (43, .ifCond .eq 7, 3, 50, 0, 0, 0), (46, .iconst 1, 1, 0, 0, 0, 0), (47, .goto 4, 3, 51, 0, 0, 0), (50, .iconst 0, 1, 0, 0, 0, 0), (51, .ireturn, 1, 0, 0, 0, 0)]
def mm_m9 : mm_M := (⟨"LineMap$Law", "isOnEdge", "(II)Z"⟩, prog_2_method_10_code, 5, some .boolean, 0, mm_k9, 606, 605, 13, 84, 0)
theorem mm_c9 : mm_mchk mm_m9 = true := by decide +kernel
/-- LineMap$Law.findCrossing()Z -/
def mm_k10 : List mm_E := [(0, .iconst 0, 1, 0, 0, 0, 0), (1, .istore_n 1, 1, 0, 0, 0, 0), (2, .iload_n 1, 1, 0, 0, 0, 0), (3, .aload_n 0, 1, 0, 0, 0, 0), (4, .getfield 9, 3, 0, 0, 0, 261), (7, .getfield 77, 3, 2, 2, 0, 120), (10, .if_icmp .ge 85, 3, 95, 0, 0, 0), (13, .iload_n 1, 1, 0, 0, 0, 0), (14, .iconst 1, 1, 0, 0, 0, 0), (15, .iadd, 1, 0, 0, 0, 0), (16, .istore_n 2, 1, 0, 0, 0, 0), (17, .iload_n 2, 1, 0, 0, 0, 0), (18, .aload_n 0, 1, 0, 0, 0, 0), (19, .getfield 9, 3, 0, 0, 0, 261), (22, .getfield 77, 3, 2, 2, 0, 120), (25, .if_icmp .ge 64, 3, 89, 0, 0, 0), (28, .aload_n 0, 1, 0, 0, 0, 0), (29, .getfield 15, 3, 0, 1, 0, 262), (32, .aload_n 0, 1, 0, 0, 0, 0), (33, .getfield 9, 3, 0, 0, 0, 261), (36, .getfield 80, 3, 2, 8, 0, 138), (39, .iload_n 1, 1, 0, 0, 0, 0), (40, .iaload, 1, 0, 0, 0, 0), (41, .aload_n 0, 1, 0, 0, 0, 0), (42, .getfield 9, 3, 0, 0, 0, 261), (45, .getfield 84, 3, 2, 9, 0, 143), (48, .iload_n 1, 1, 0, 0, 0, 0), (49, .iaload, 1, 0, 0, 0, 0), (50, .aload_n 0, 1, 0, 0, 0, 0), (51, .getfield 9, 3, 0, 0, 0, 261), (54, .getfield 80, 3, 2, 8, 0, 138), (57, .iload_n 2, 1, 0, 0, 0, 0), (58, .iaload, 1, 0, 0, 0, 0), (59, .aload_n 0, 1, 0, 0, 0, 0), (60, .getfield 9, 3, 0, 0, 0, 261), (63, .getfield 84, 3, 2, 9, 0, 143), (66, .iload_n 2, 1, 0, 0, 0, 0), (67, .iaload, 1, 0, 0, 0, 0), (68, .invokevirtual 105, 3, 58, 4, 3, 625), (71, .ifCond .eq 12, 3, 83, 0, 0, 0), (74, .aload_n 0, 1, 0, 0, 0, 0), (75, .bipush 6, 2, 0, 0, 0, 0), (77, .iload_n 1, 1, 0, 0, 0, 0), (78, .iload_n 2, 1, 0, 0, 0, 0), (79, .invokevirtual 52, 3, 3, 3, 0, 567), (82, .ireturn, 1, 0, 0, 0, 0), (83, .iinc 2 1, 3, 0, 0, 0, 0), (86, .goto (-69), 3, 17, 0, 0, 0), (89, .iinc 1 1, 3, 0, 0, 0, 0), (92, .goto (-90), 3, 2, 0, 0, 0), (95, .iconst 0, 1, 0, 0, 0, 0), (96, .ireturn, 1, 0, 0, 0, 0)]
def mm_m10 : mm_M := (⟨"LineMap$Law", "findCrossing", "()Z"⟩, prog_2_method_11_code, 3, some .boolean, 0, mm_k10, 624, 623, 15, 84, 0)
theorem mm_c10 : mm_mchk mm_m10 = true := by decide +kernel
/-- LineMap$Law.findTwisted()Z -/
def mm_k11 : List mm_E := [(0, .iconst 0, 1, 0, 0, 0, 0), (1, .istore_n 1, 1, 0, 0, 0, 0), (2, .iload_n 1, 1, 0, 0, 0, 0), (3, .aload_n 0, 1, 0, 0, 0, 0), (4, .getfield 9, 3, 0, 0, 0, 261), (7, .getfield 62, 3, 2, 0, 0, 113), (10, .if_icmp .ge 26, 3, 36, 0, 0, 0), (13, .aload_n 0, 1, 0, 0, 0, 0), (14, .iload_n 1, 1, 0, 0, 0, 0), (15, .invokevirtual 109, 3, 12, 1, 0, 633), (18, .ifCond .ne 12, 3, 30, 0, 0, 0), (21, .aload_n 0, 1, 0, 0, 0, 0), (22, .bipush 7, 2, 0, 0, 0, 0), (24, .iload_n 1, 1, 0, 0, 0, 0), (25, .iconst (-1), 1, 0, 0, 0, 0), (26, .invokevirtual 52, 3, 3, 3, 0, 567), (29, .ireturn, 1, 0, 0, 0, 0), (30, .iinc 1 1, 3, 0, 0, 0, 0), (33, .goto (-31), 3, 2, 0, 0, 0), (36, .iconst 0, 1, 0, 0, 0, 0), (37, .ireturn, 1, 0, 0, 0, 0)]
def mm_m11 : mm_M := (⟨"LineMap$Law", "findTwisted", "()Z"⟩, prog_2_method_12_code, 2, some .boolean, 0, mm_k11, 632, 631, 16, 84, 0)
theorem mm_c11 : mm_mchk mm_m11 = true := by decide +kernel
/-- LineMap$Law.isRingTrue(I)Z -/
def mm_k12 : List mm_E := [(0, .iconst 0, 1, 0, 0, 0, 0), (1, .istore_n 2, 1, 0, 0, 0, 0), (2, .iconst 0, 1, 0, 0, 0, 0), (3, .istore_n 3, 1, 0, 0, 0, 0), (4, .iconst 0, 1, 0, 0, 0, 0), (5, .istore 4, 2, 0, 0, 0, 0), (7, .iconst 0, 1, 0, 0, 0, 0), (8, .istore 5, 2, 0, 0, 0, 0), (10, .iconst 0, 1, 0, 0, 0, 0), (11, .istore 6, 2, 0, 0, 0, 0), (13, .iload 6, 2, 0, 0, 0, 0), (15, .aload_n 0, 1, 0, 0, 0, 0), (16, .getfield 9, 3, 0, 0, 0, 261), (19, .getfield 112, 3, 2, 11, 0, 151), (22, .iload_n 1, 1, 0, 0, 0, 0), (23, .iaload, 1, 0, 0, 0, 0), (24, .if_icmp .ge 77, 3, 101, 0, 0, 0), (27, .aload_n 0, 1, 0, 0, 0, 0), (28, .getfield 9, 3, 0, 0, 0, 261), (31, .getfield 115, 3, 2, 12, 0, 156), (34, .iload_n 1, 1, 0, 0, 0, 0), (35, .aaload, 1, 0, 0, 0, 0), (36, .iload 6, 2, 0, 0, 0, 0), (38, .iaload, 1, 0, 0, 0, 0), (39, .istore 7, 2, 0, 0, 0, 0), (41, .aload_n 0, 1, 0, 0, 0, 0), (42, .getfield 15, 3, 0, 1, 0, 262), (45, .iload 7, 2, 0, 0, 0, 0), (47, .invokevirtual 67, 3, 46, 1, 3, 566), (50, .ifCond .eq 45, 3, 95, 0, 0, 0), (53, .aload_n 0, 1, 0, 0, 0, 0), (54, .getfield 15, 3, 0, 1, 0, 262), (57, .iload_n 1, 1, 0, 0, 0, 0), (58, .iload 7, 2, 0, 0, 0, 0), (60, .invokevirtual 87, 3, 52, 2, 3, 583), (63, .istore 8, 2, 0, 0, 0, 0), (65, .iload_n 2, 1, 0, 0, 0, 0), (66, .ifCond .ne 9, 3, 75, 0, 0, 0), (69, .iload 8, 2, 0, 0, 0, 0), (71, .istore_n 3, 1, 0, 0, 0, 0), (72, .goto 16, 3, 88, 0, 0, 0), (75, .iload 5, 2, 0, 0, 0, 0), (77, .iload 8, 2, 0, 0, 0, 0), (79, .iload 4, 2, 0, 0, 0, 0), (81, .isub, 1, 0, 0, 0, 0), (82, .bipush 7, 2, 0, 0, 0, 0), (84, .iand, 1, 0, 0, 0, 0), (85, .iadd, 1, 0, 0, 0, 0), (86, .istore 5, 2, 0, 0, 0, 0), (88, .iload 8, 2, 0, 0, 0, 0), (90, .istore 4, 2, 0, 0, 0, 0), (92, .iinc 2 1, 3, 0, 0, 0, 0), (95, .iinc 6 1, 3, 0, 0, 0, 0), (98, .goto (-85), 3, 13, 0, 0, 0), (101, .iload 5, 2, 0, 0, 0, 0), (103, .iload_n 3, 1, 0, 0, 0, 0), (104, .iload 4, 2, 0, 0, 0, 0), (106, .isub, 1, 0, 0, 0, 0), (107, .bipush 7, 2, 0, 0, 0, 0), (109, .iand, 1, 0, 0, 0, 0), (110, .iadd, 1, 0, 0, 0, 0), (111, .istore 5, 2, 0, 0, 0, 0), (113, .iload_n 2, 1, 0, 0, 0, 0), (114, .iconst 3, 1, 0, 0, 0, 0), (115, .if_icmp .lt 10, 3, 125, 0, 0, 0), (118, .iload 5, 2, 0, 0, 0, 0), (120, .bipush 8, 2, 0, 0, 0, 0), (122, .if_icmp .ne 7, 3, 129, 0, 0, 0), (125, .iconst 1, 1, 0, 0, 0, 0), (126, .goto 4, 3, 130, 0, 0, 0), (129, .iconst 0, 1, 0, 0, 0, 0), (130, .ireturn, 1, 0, 0, 0, 0)]
def mm_m12 : mm_M := (⟨"LineMap$Law", "isRingTrue", "(I)Z"⟩, prog_2_method_13_code, 9, some .boolean, 0, mm_k12, 636, 635, 17, 84, 0)
theorem mm_c12 : mm_mchk mm_m12 = true := by decide +kernel
/-- LineMap$Law.areEdgesGood(I)Z -/
def mm_k13 : List mm_E := [(0, .iconst 0, 1, 0, 0, 0, 0), (1, .istore_n 2, 1, 0, 0, 0, 0), (2, .iload_n 2, 1, 0, 0, 0, 0), (3, .aload_n 0, 1, 0, 0, 0, 0), (4, .getfield 9, 3, 0, 0, 0, 261), (7, .getfield 112, 3, 2, 11, 0, 151), (10, .iload_n 1, 1, 0, 0, 0, 0), (11, .iaload, 1, 0, 0, 0, 0), (12, .if_icmp .ge 66, 3, 78, 0, 0, 0), (15, .aload_n 0, 1, 0, 0, 0, 0), (16, .getfield 9, 3, 0, 0, 0, 261), (19, .getfield 115, 3, 2, 12, 0, 156), (22, .iload_n 1, 1, 0, 0, 0, 0), (23, .aaload, 1, 0, 0, 0, 0), (24, .iload_n 2, 1, 0, 0, 0, 0), (25, .iaload, 1, 0, 0, 0, 0), (26, .istore_n 3, 1, 0, 0, 0, 0), (27, .aload_n 0, 1, 0, 0, 0, 0), (28, .getfield 15, 3, 0, 1, 0, 262), (31, .iload_n 3, 1, 0, 0, 0, 0), (32, .invokevirtual 67, 3, 46, 1, 3, 566), (35, .ifCond .eq 37, 3, 72, 0, 0, 0), (38, .aload_n 0, 1, 0, 0, 0, 0), (39, .getfield 15, 3, 0, 1, 0, 262), (42, .iload_n 1, 1, 0, 0, 0, 0), (43, .iload_n 3, 1, 0, 0, 0, 0), (44, .invokevirtual 91, 3, 53, 2, 3, 591), (47, .aload_n 0, 1, 0, 0, 0, 0), (48, .getfield 19, 3, 0, 2, 0, 263), (51, .getfield 94, 3, 6, 3, 0, 244), (54, .if_icmp .lt 16, 3, 70, 0, 0, 0), (57, .aload_n 0, 1, 0, 0, 0, 0), (58, .getfield 15, 3, 0, 1, 0, 262), (61, .iload_n 1, 1, 0, 0, 0, 0), (62, .iload_n 3, 1, 0, 0, 0, 0), (63, .invokevirtual 87, 3, 52, 2, 3, 583), (66, .iconst (-1), 1, 0, 0, 0, 0), (67, .if_icmp .ne 5, 3, 72, 0, 0, 0), (70, .iconst 0, 1, 0, 0, 0, 0), (71, .ireturn, 1, 0, 0, 0, 0), (72, .iinc 2 1, 3, 0, 0, 0, 0), (75, .goto (-73), 3, 2, 0, 0, 0), (78, .iconst 1, 1, 0, 0, 0, 0), (79, .ireturn, 1, 0, 0, 0, 0)]
def mm_m13 : mm_M := (⟨"LineMap$Law", "areEdgesGood", "(I)Z"⟩, prog_2_method_14_code, 4, some .boolean, 0, mm_k13, 789, 787, 788, 84, 0)
theorem mm_c13 : mm_mchk mm_m13 = true := by decide +kernel
/-- LineMap$Law.fits(I)Z -/
def mm_k14 : List mm_E := [(0, .aload_n 0, 1, 0, 0, 0, 0), (1, .iload_n 1, 1, 0, 0, 0, 0), (2, .invokevirtual 119, 3, 15, 1, 0, 794), (5, .ifCond .eq 31, 3, 36, 0, 0, 0), (8, .aload_n 0, 1, 0, 0, 0, 0), (9, .iload_n 1, 1, 0, 0, 0, 0), (10, .invokevirtual 122, 3, 16, 1, 0, 798), (13, .ifCond .eq 23, 3, 36, 0, 0, 0), (16, .aload_n 0, 1, 0, 0, 0, 0), (17, .iload_n 1, 1, 0, 0, 0, 0), (18, .invokevirtual 125, 3, 18, 1, 0, 802), (21, .ifCond .eq 15, 3, 36, 0, 0, 0), (24, .aload_n 0, 1, 0, 0, 0, 0), (25, .iload_n 1, 1, 0, 0, 0, 0), (26, .invokevirtual 128, 3, 21, 1, 0, 811), (29, .ifCond .eq 7, 3, 36, 0, 0, 0), (32, .iconst 1, 1, 0, 0, 0, 0), (33, .goto 4, 3, 37, 0, 0, 0), (36, .iconst 0, 1, 0, 0, 0, 0), (37, .ireturn, 1, 0, 0, 0, 0)]
def mm_m14 : mm_M := (⟨"LineMap$Law", "fits", "(I)Z"⟩, prog_2_method_15_code, 2, some .boolean, 0, mm_k14, 793, 791, 792, 84, 0)
theorem mm_c14 : mm_mchk mm_m14 = true := by decide +kernel
/-- LineMap$Law.isAlone(I)Z -/
def mm_k15 : List mm_E := [(0, .iconst 0, 1, 0, 0, 0, 0), (1, .istore_n 2, 1, 0, 0, 0, 0), (2, .iload_n 2, 1, 0, 0, 0, 0), (3, .aload_n 0, 1, 0, 0, 0, 0), (4, .getfield 9, 3, 0, 0, 0, 261), (7, .getfield 62, 3, 2, 0, 0, 113), (10, .if_icmp .ge 28, 3, 38, 0, 0, 0), (13, .iload_n 2, 1, 0, 0, 0, 0), (14, .iload_n 1, 1, 0, 0, 0, 0), (15, .if_icmp .eq 17, 3, 32, 0, 0, 0), (18, .aload_n 0, 1, 0, 0, 0, 0), (19, .getfield 15, 3, 0, 1, 0, 262), (22, .iload_n 2, 1, 0, 0, 0, 0), (23, .iload_n 1, 1, 0, 0, 0, 0), (24, .invokevirtual 73, 3, 54, 2, 3, 575), (27, .ifCond .eq 5, 3, 32, 0, 0, 0), (30, .iconst 0, 1, 0, 0, 0, 0), (31, .ireturn, 1, 0, 0, 0, 0), (32, .iinc 2 1, 3, 0, 0, 0, 0), (35, .goto (-33), 3, 2, 0, 0, 0), (38, .iconst 1, 1, 0, 0, 0, 0), (39, .ireturn, 1, 0, 0, 0, 0)]
def mm_m15 : mm_M := (⟨"LineMap$Law", "isAlone", "(I)Z"⟩, prog_2_method_16_code, 3, some .boolean, 0, mm_k15, 797, 796, 35, 84, 0)
theorem mm_c15 : mm_mchk mm_m15 = true := by decide +kernel
/-- LineMap$Law.isOffEdges(I)Z -/
def mm_k16 : List mm_E := [(0, .iconst 0, 1, 0, 0, 0, 0), (1, .istore_n 2, 1, 0, 0, 0, 0), (2, .iload_n 2, 1, 0, 0, 0, 0), (3, .aload_n 0, 1, 0, 0, 0, 0), (4, .getfield 9, 3, 0, 0, 0, 261), (7, .getfield 77, 3, 2, 2, 0, 120), (10, .if_icmp .ge 28, 3, 38, 0, 0, 0), (13, .aload_n 0, 1, 0, 0, 0, 0), (14, .iload_n 2, 1, 0, 0, 0, 0), (15, .invokevirtual 131, 3, 17, 1, 0, 765), (18, .ifCond .eq 14, 3, 32, 0, 0, 0), (21, .aload_n 0, 1, 0, 0, 0, 0), (22, .iload_n 1, 1, 0, 0, 0, 0), (23, .iload_n 2, 1, 0, 0, 0, 0), (24, .invokevirtual 99, 3, 9, 2, 0, 603), (27, .ifCond .eq 5, 3, 32, 0, 0, 0), (30, .iconst 0, 1, 0, 0, 0, 0), (31, .ireturn, 1, 0, 0, 0, 0), (32, .iinc 2 1, 3, 0, 0, 0, 0), (35, .goto (-33), 3, 2, 0, 0, 0), (38, .iconst 1, 1, 0, 0, 0, 0), (39, .ireturn, 1, 0, 0, 0, 0)]
def mm_m16 : mm_M := (⟨"LineMap$Law", "isOffEdges", "(I)Z"⟩, prog_2_method_17_code, 3, some .boolean, 0, mm_k16, 801, 800, 36, 84, 0)
theorem mm_c16 : mm_mchk mm_m16 = true := by decide +kernel
/-- LineMap$Law.isDrawn(I)Z -/
def mm_k17 : List mm_E := [(0, .aload_n 0, 1, 0, 0, 0, 0), (1, .getfield 15, 3, 0, 1, 0, 262), (4, .aload_n 0, 1, 0, 0, 0, 0), (5, .getfield 9, 3, 0, 0, 0, 261), (8, .getfield 80, 3, 2, 8, 0, 138), (11, .iload_n 1, 1, 0, 0, 0, 0), (12, .iaload, 1, 0, 0, 0, 0), (13, .invokevirtual 67, 3, 46, 1, 3, 566), (16, .ifCond .eq 26, 3, 42, 0, 0, 0), (19, .aload_n 0, 1, 0, 0, 0, 0), (20, .getfield 15, 3, 0, 1, 0, 262), (23, .aload_n 0, 1, 0, 0, 0, 0), (24, .getfield 9, 3, 0, 0, 0, 261), (27, .getfield 84, 3, 2, 9, 0, 143), (30, .iload_n 1, 1, 0, 0, 0, 0), (31, .iaload, 1, 0, 0, 0, 0), (32, .invokevirtual 67, 3, 46, 1, 3, 566), (35, .ifCond .eq 7, 3, 42, 0, 0, 0), (38, .iconst 1, 1, 0, 0, 0, 0), (39, .goto 4, 3, 43, 0, 0, 0), (42, .iconst 0, 1, 0, 0, 0, 0), (43, .ireturn, 1, 0, 0, 0, 0)]
def mm_m17 : mm_M := (⟨"LineMap$Law", "isDrawn", "(I)Z"⟩, prog_2_method_18_code, 2, some .boolean, 0, mm_k17, 768, 767, 32, 84, 0)
theorem mm_c17 : mm_mchk mm_m17 = true := by decide +kernel
/-- LineMap$Law.areEdgesClear(I)Z -/
def mm_k18 : List mm_E := [(0, .iconst 0, 1, 0, 0, 0, 0), (1, .istore_n 2, 1, 0, 0, 0, 0), (2, .iload_n 2, 1, 0, 0, 0, 0), (3, .aload_n 0, 1, 0, 0, 0, 0), (4, .getfield 9, 3, 0, 0, 0, 261), (7, .getfield 112, 3, 2, 11, 0, 151), (10, .iload_n 1, 1, 0, 0, 0, 0), (11, .iaload, 1, 0, 0, 0, 0), (12, .if_icmp .ge 43, 3, 55, 0, 0, 0), (15, .aload_n 0, 1, 0, 0, 0, 0), (16, .getfield 9, 3, 0, 0, 0, 261), (19, .getfield 115, 3, 2, 12, 0, 156), (22, .iload_n 1, 1, 0, 0, 0, 0), (23, .aaload, 1, 0, 0, 0, 0), (24, .iload_n 2, 1, 0, 0, 0, 0), (25, .iaload, 1, 0, 0, 0, 0), (26, .istore_n 3, 1, 0, 0, 0, 0), (27, .aload_n 0, 1, 0, 0, 0, 0), (28, .getfield 15, 3, 0, 1, 0, 262), (31, .iload_n 3, 1, 0, 0, 0, 0), (32, .invokevirtual 67, 3, 46, 1, 3, 566), (35, .ifCond .eq 14, 3, 49, 0, 0, 0), (38, .aload_n 0, 1, 0, 0, 0, 0), (39, .iload_n 1, 1, 0, 0, 0, 0), (40, .iload_n 3, 1, 0, 0, 0, 0), (41, .invokevirtual 134, 3, 19, 2, 0, 806), (44, .ifCond .ne 5, 3, 49, 0, 0, 0), (47, .iconst 0, 1, 0, 0, 0, 0), (48, .ireturn, 1, 0, 0, 0, 0), (49, .iinc 2 1, 3, 0, 0, 0, 0), (52, .goto (-50), 3, 2, 0, 0, 0), (55, .iconst 1, 1, 0, 0, 0, 0), (56, .ireturn, 1, 0, 0, 0, 0)]
def mm_m18 : mm_M := (⟨"LineMap$Law", "areEdgesClear", "(I)Z"⟩, prog_2_method_19_code, 4, some .boolean, 0, mm_k18, 805, 804, 37, 84, 0)
theorem mm_c18 : mm_mchk mm_m18 = true := by decide +kernel
/-- LineMap$Law.isEdgeClear(II)Z -/
def mm_k19 : List mm_E := [(0, .iconst 0, 1, 0, 0, 0, 0), (1, .istore_n 3, 1, 0, 0, 0, 0), (2, .iload_n 3, 1, 0, 0, 0, 0), (3, .aload_n 0, 1, 0, 0, 0, 0), (4, .getfield 9, 3, 0, 0, 0, 261), (7, .getfield 62, 3, 2, 0, 0, 113), (10, .if_icmp .ge 45, 3, 55, 0, 0, 0), (13, .iload_n 3, 1, 0, 0, 0, 0), (14, .iload_n 1, 1, 0, 0, 0, 0), (15, .if_icmp .eq 34, 3, 49, 0, 0, 0), (18, .iload_n 3, 1, 0, 0, 0, 0), (19, .iload_n 2, 1, 0, 0, 0, 0), (20, .if_icmp .eq 29, 3, 49, 0, 0, 0), (23, .aload_n 0, 1, 0, 0, 0, 0), (24, .getfield 15, 3, 0, 1, 0, 262), (27, .iload_n 3, 1, 0, 0, 0, 0), (28, .invokevirtual 67, 3, 46, 1, 3, 566), (31, .ifCond .eq 18, 3, 49, 0, 0, 0), (34, .aload_n 0, 1, 0, 0, 0, 0), (35, .getfield 15, 3, 0, 1, 0, 262), (38, .iload_n 3, 1, 0, 0, 0, 0), (39, .iload_n 1, 1, 0, 0, 0, 0), (40, .iload_n 2, 1, 0, 0, 0, 0), (41, .invokevirtual 102, 3, 56, 3, 3, 607), (44, .ifCond .eq 5, 3, 49, 0, 0, 0), (47, .iconst 0, 1, 0, 0, 0, 0), (48, .ireturn, 1, 0, 0, 0, 0), (49, .iinc 3 1, 3, 0, 0, 0, 0), (52, .goto (-50), 3, 2, 0, 0, 0), (55, .aload_n 0, 1, 0, 0, 0, 0), (56, .iload_n 1, 1, 0, 0, 0, 0), (57, .iload_n 2, 1, 0, 0, 0, 0), (58, .invokevirtual 137, 3, 20, 2, 0, 810), (61, .ifCond .ne 7, 3, 68, 0, 0, 0), (64, .iconst 1, 1, 0, 0, 0, 0), (65, .goto 4, 3, 69, 0, 0, 0), (68, .iconst 0, 1, 0, 0, 0, 0), (69, .ireturn, 1, 0, 0, 0, 0)]
def mm_m19 : mm_M := (⟨"LineMap$Law", "isEdgeClear", "(II)Z"⟩, prog_2_method_20_code, 4, some .boolean, 0, mm_k19, 809, 808, 38, 84, 0)
theorem mm_c19 : mm_mchk mm_m19 = true := by decide +kernel
/-- LineMap$Law.isCrossed(II)Z -/
def mm_k20 : List mm_E := [(0, .iconst 0, 1, 0, 0, 0, 0), (1, .istore_n 3, 1, 0, 0, 0, 0), (2, .iload_n 3, 1, 0, 0, 0, 0), (3, .aload_n 0, 1, 0, 0, 0, 0), (4, .getfield 9, 3, 0, 0, 0, 261), (7, .getfield 77, 3, 2, 2, 0, 120), (10, .if_icmp .ge 49, 3, 59, 0, 0, 0), (13, .aload_n 0, 1, 0, 0, 0, 0), (14, .iload_n 3, 1, 0, 0, 0, 0), (15, .invokevirtual 131, 3, 17, 1, 0, 765), (18, .ifCond .eq 35, 3, 53, 0, 0, 0), (21, .aload_n 0, 1, 0, 0, 0, 0), (22, .getfield 15, 3, 0, 1, 0, 262), (25, .iload_n 1, 1, 0, 0, 0, 0), (26, .iload_n 2, 1, 0, 0, 0, 0), (27, .aload_n 0, 1, 0, 0, 0, 0), (28, .getfield 9, 3, 0, 0, 0, 261), (31, .getfield 80, 3, 2, 8, 0, 138), (34, .iload_n 3, 1, 0, 0, 0, 0), (35, .iaload, 1, 0, 0, 0, 0), (36, .aload_n 0, 1, 0, 0, 0, 0), (37, .getfield 9, 3, 0, 0, 0, 261), (40, .getfield 84, 3, 2, 9, 0, 143), (43, .iload_n 3, 1, 0, 0, 0, 0), (44, .iaload, 1, 0, 0, 0, 0), (45, .invokevirtual 105, 3, 58, 4, 3, 625), (48, .ifCond .eq 5, 3, 53, 0, 0, 0), (51, .iconst 1, 1, 0, 0, 0, 0), (52, .ireturn, 1, 0, 0, 0, 0), (53, .iinc 3 1, 3, 0, 0, 0, 0), (56, .goto (-54), 3, 2, 0, 0, 0), (59, .iconst 0, 1, 0, 0, 0, 0), (60, .ireturn, 1, 0, 0, 0, 0)]
def mm_m20 : mm_M := (⟨"LineMap$Law", "isCrossed", "(II)Z"⟩, prog_2_method_21_code, 4, some .boolean, 0, mm_k20, 764, 762, 763, 84, 0)
theorem mm_c20 : mm_mchk mm_m20 = true := by decide +kernel
/-- LineMap$Law.areRingsTrue(I)Z -/
def mm_k21 : List mm_E := [(0, .iconst 0, 1, 0, 0, 0, 0), (1, .istore_n 2, 1, 0, 0, 0, 0), (2, .iload_n 2, 1, 0, 0, 0, 0), (3, .aload_n 0, 1, 0, 0, 0, 0), (4, .getfield 9, 3, 0, 0, 0, 261), (7, .getfield 112, 3, 2, 11, 0, 151), (10, .iload_n 1, 1, 0, 0, 0, 0), (11, .iaload, 1, 0, 0, 0, 0), (12, .if_icmp .ge 42, 3, 54, 0, 0, 0), (15, .aload_n 0, 1, 0, 0, 0, 0), (16, .getfield 9, 3, 0, 0, 0, 261), (19, .getfield 115, 3, 2, 12, 0, 156), (22, .iload_n 1, 1, 0, 0, 0, 0), (23, .aaload, 1, 0, 0, 0, 0), (24, .iload_n 2, 1, 0, 0, 0, 0), (25, .iaload, 1, 0, 0, 0, 0), (26, .istore_n 3, 1, 0, 0, 0, 0), (27, .aload_n 0, 1, 0, 0, 0, 0), (28, .getfield 15, 3, 0, 1, 0, 262), (31, .iload_n 3, 1, 0, 0, 0, 0), (32, .invokevirtual 67, 3, 46, 1, 3, 566), (35, .ifCond .eq 13, 3, 48, 0, 0, 0), (38, .aload_n 0, 1, 0, 0, 0, 0), (39, .iload_n 3, 1, 0, 0, 0, 0), (40, .invokevirtual 109, 3, 12, 1, 0, 633), (43, .ifCond .ne 5, 3, 48, 0, 0, 0), (46, .iconst 0, 1, 0, 0, 0, 0), (47, .ireturn, 1, 0, 0, 0, 0), (48, .iinc 2 1, 3, 0, 0, 0, 0), (51, .goto (-49), 3, 2, 0, 0, 0), (54, .aload_n 0, 1, 0, 0, 0, 0), (55, .iload_n 1, 1, 0, 0, 0, 0), (56, .invokevirtual 109, 3, 12, 1, 0, 633), (59, .ireturn, 1, 0, 0, 0, 0)]
def mm_m21 : mm_M := (⟨"LineMap$Law", "areRingsTrue", "(I)Z"⟩, prog_2_method_22_code, 4, some .boolean, 0, mm_k21, 772, 770, 771, 84, 0)
theorem mm_c21 : mm_mchk mm_m21 = true := by decide +kernel
/-- LineMap$Names.<init>(LLineMap$Net;LLineMap$Plan;)V -/
def mm_k22 : List mm_E := [(0, .aload_n 0, 1, 0, 0, 0, 0), (1, .invokespecial 3, 3, 0, 0, 2, 363), (4, .aload_n 0, 1, 0, 0, 0, 0), (5, .bipush 10, 2, 0, 0, 0, 0), (7, .newarray .int, 2, 0, 0, 0, 0), (9, .putfield 9, 3, 1, 2, 2, 371), (12, .aload_n 0, 1, 0, 0, 0, 0), (13, .bipush 10, 2, 0, 0, 0, 0), (15, .newarray .int, 2, 0, 0, 0, 0), (17, .putfield 15, 3, 1, 3, 2, 373), (20, .aload_n 0, 1, 0, 0, 0, 0), (21, .bipush 10, 2, 0, 0, 0, 0), (23, .newarray .int, 2, 0, 0, 0, 0), (25, .putfield 18, 3, 1, 4, 2, 375), (28, .aload_n 0, 1, 0, 0, 0, 0), (29, .bipush 10, 2, 0, 0, 0, 0), (31, .newarray .int, 2, 0, 0, 0, 0), (33, .putfield 21, 3, 1, 5, 2, 377), (36, .aload_n 0, 1, 0, 0, 0, 0), (37, .bipush 10, 2, 0, 0, 0, 0), (39, .newarray .int, 2, 0, 0, 0, 0), (41, .putfield 24, 3, 1, 6, 2, 378), (44, .aload_n 0, 1, 0, 0, 0, 0), (45, .bipush 10, 2, 0, 0, 0, 0), (47, .newarray .int, 2, 0, 0, 0, 0), (49, .putfield 27, 3, 1, 7, 2, 379), (52, .aload_n 0, 1, 0, 0, 0, 0), (53, .aload_n 1, 1, 0, 0, 0, 0), (54, .putfield 30, 3, 1, 0, 2, 369), (57, .aload_n 0, 1, 0, 0, 0, 0), (58, .aload_n 2, 1, 0, 0, 0, 0), (59, .putfield 34, 3, 1, 1, 2, 370), (62, .aload_n 0, 1, 0, 0, 0, 0), (63, .invokevirtual 38, 3, 23, 0, 1, 364), (66, .return_, 1, 0, 0, 0, 0)]
def mm_m22 : mm_M := (⟨"LineMap$Names", "<init>", "(LLineMap$Net;LLineMap$Plan;)V"⟩, prog_3_method_1_code, 3, none, 1, mm_k22, 362, 361, 0, 87, 2)
theorem mm_c22 : mm_mchk mm_m22 = true := by decide +kernel
/-- LineMap$Names.forget()V -/
def mm_k23 : List mm_E := [(0, .aload_n 0, 1, 0, 0, 0, 0), (1, .getfield 15, 3, 1, 3, 0, 373), (4, .iconst (-1), 1, 0, 0, 0, 0), (5, .invokestatic 41, 3, 178, 2, 0, 368), (8, .aload_n 0, 1, 0, 0, 0, 0), (9, .getfield 18, 3, 1, 4, 0, 375), (12, .iconst (-1), 1, 0, 0, 0, 0), (13, .invokestatic 41, 3, 178, 2, 0, 368), (16, .return_, 1, 0, 0, 0, 0)]
def mm_m23 : mm_M := (⟨"LineMap$Names", "forget", "()V"⟩, prog_3_method_2_code, 1, none, 1, mm_k23, 367, 366, 0, 87, 0)
theorem mm_c23 : mm_mchk mm_m23 = true := by decide +kernel
/-- LineMap$Names.putAll()I -/
def mm_k24 : List mm_E := [(0, .aload_n 0, 1, 0, 0, 0, 0), (1, .invokevirtual 38, 3, 23, 0, 1, 364), (4, .iconst 0, 1, 0, 0, 0, 0), (5, .istore_n 1, 1, 0, 0, 0, 0), (6, .iconst 0, 1, 0, 0, 0, 0), (7, .istore_n 2, 1, 0, 0, 0, 0), (8, .iload_n 2, 1, 0, 0, 0, 0), (9, .aload_n 0, 1, 0, 0, 0, 0), (10, .getfield 30, 3, 1, 0, 0, 369), (13, .getfield 47, 3, 2, 0, 0, 112), (16, .if_icmp .ge 29, 3, 45, 0, 0, 0), (19, .aload_n 0, 1, 0, 0, 0, 0), (20, .getfield 9, 3, 1, 2, 0, 371), (23, .iload_n 2, 1, 0, 0, 0, 0), (24, .iaload, 1, 0, 0, 0, 0), (25, .ifCond .le 14, 3, 39, 0, 0, 0), (28, .aload_n 0, 1, 0, 0, 0, 0), (29, .iload_n 2, 1, 0, 0, 0, 0), (30, .invokevirtual 53, 3, 25, 1, 1, 824), (33, .ifCond .eq 6, 3, 39, 0, 0, 0), (36, .iinc 1 1, 3, 0, 0, 0, 0), (39, .iinc 2 1, 3, 0, 0, 0, 0), (42, .goto (-34), 3, 8, 0, 0, 0), (45, .iload_n 1, 1, 0, 0, 0, 0), (46, .ireturn, 1, 0, 0, 0, 0)]
def mm_m24 : mm_M := (⟨"LineMap$Names", "putAll", "()I"⟩, prog_3_method_3_code, 3, some .int, 1, mm_k24, 823, 821, 822, 87, 0)
theorem mm_c24 : mm_mchk mm_m24 = true := by decide +kernel
/-- LineMap$Names.layFreely(I)Z -/
def mm_k25 : List mm_E := [(0, .iconst 0, 1, 0, 0, 0, 0), (1, .istore_n 2, 1, 0, 0, 0, 0), (2, .iload_n 2, 1, 0, 0, 0, 0), (3, .bipush 8, 2, 0, 0, 0, 0), (5, .if_icmp .ge 33, 3, 38, 0, 0, 0), (8, .aload_n 0, 1, 0, 0, 0, 0), (9, .iload_n 1, 1, 0, 0, 0, 0), (10, .iload_n 2, 1, 0, 0, 0, 0), (11, .invokevirtual 57, 3, 26, 2, 1, 828), (14, .aload_n 0, 1, 0, 0, 0, 0), (15, .iload_n 1, 1, 0, 0, 0, 0), (16, .invokevirtual 61, 3, 27, 1, 1, 832), (19, .iconst (-1), 1, 0, 0, 0, 0), (20, .if_icmp .ne 12, 3, 32, 0, 0, 0), (23, .aload_n 0, 1, 0, 0, 0, 0), (24, .getfield 15, 3, 1, 3, 0, 373), (27, .iload_n 1, 1, 0, 0, 0, 0), (28, .iload_n 2, 1, 0, 0, 0, 0), (29, .iastore, 1, 0, 0, 0, 0), (30, .iconst 1, 1, 0, 0, 0, 0), (31, .ireturn, 1, 0, 0, 0, 0), (32, .iinc 2 1, 3, 0, 0, 0, 0), (35, .goto (-33), 3, 2, 0, 0, 0), (38, .aload_n 0, 1, 0, 0, 0, 0), (39, .iload_n 1, 1, 0, 0, 0, 0), (40, .iconst 0, 1, 0, 0, 0, 0), (41, .invokevirtual 57, 3, 26, 2, 1, 828), (44, .aload_n 0, 1, 0, 0, 0, 0), (45, .getfield 18, 3, 1, 4, 0, 375), (48, .iload_n 1, 1, 0, 0, 0, 0), (49, .aload_n 0, 1, 0, 0, 0, 0), (50, .iload_n 1, 1, 0, 0, 0, 0), (51, .invokevirtual 61, 3, 27, 1, 1, 832), (54, .iastore, 1, 0, 0, 0, 0), (55, .iconst 0, 1, 0, 0, 0, 0), (56, .ireturn, 1, 0, 0, 0, 0)]
def mm_m25 : mm_M := (⟨"LineMap$Names", "layFreely", "(I)Z"⟩, prog_3_method_4_code, 3, some .boolean, 1, mm_k25, 827, 826, 39, 87, 0)
theorem mm_c25 : mm_mchk mm_m25 = true := by decide +kernel
/-- LineMap$Names.lay(II)V -/
def mm_k26 : List mm_E := [(0, .iconst 4, 1, 0, 0, 0, 0), (1, .aload_n 0, 1, 0, 0, 0, 0), (2, .getfield 34, 3, 1, 1, 0, 370), (5, .getfield 65, 3, 3, 2, 0, 206), (8, .iload_n 1, 1, 0, 0, 0, 0), (9, .iaload, 1, 0, 0, 0, 0), (10, .imul, 1, 0, 0, 0, 0), (11, .istore_n 3, 1, 0, 0, 0, 0), (12, .iload_n 2, 1, 0, 0, 0, 0), (13, .iconst 2, 1, 0, 0, 0, 0), (14, .if_icmp .eq 9, 3, 23, 0, 0, 0), (17, .iload_n 2, 1, 0, 0, 0, 0), (18, .bipush 6, 2, 0, 0, 0, 0), (20, .if_icmp .ne 22, 3, 42, 0, 0, 0), (23, .aload_n 0, 1, 0, 0, 0, 0), (24, .getfield 21, 3, 1, 5, 0, 377), (27, .iload_n 1, 1, 0, 0, 0, 0), (28, .iload_n 3, 1, 0, 0, 0, 0), (29, .aload_n 0, 1, 0, 0, 0, 0), (30, .getfield 9, 3, 1, 2, 0, 371), (33, .iload_n 1, 1, 0, 0, 0, 0), (34, .iaload, 1, 0, 0, 0, 0), (35, .iconst 2, 1, 0, 0, 0, 0), (36, .idiv, 1, 0, 0, 0, 0), (37, .isub, 1, 0, 0, 0, 0), (38, .iastore, 1, 0, 0, 0, 0), (39, .goto 34, 3, 73, 0, 0, 0), (42, .aload_n 0, 1, 0, 0, 0, 0), (43, .getfield 21, 3, 1, 5, 0, 377), (46, .iload_n 1, 1, 0, 0, 0, 0), (47, .iload_n 2, 1, 0, 0, 0, 0), (48, .iconst 2, 1, 0, 0, 0, 0), (49, .if_icmp .le 20, 3, 69, 0, 0, 0), (52, .iload_n 2, 1, 0, 0, 0, 0), (53, .bipush 6, 2, 0, 0, 0, 0), (55, .if_icmp .ge 14, 3, 69, 0, 0, 0), (58, .iload_n 3, 1, 0, 0, 0, 0), (59, .aload_n 0, 1, 0, 0, 0, 0), (60, .getfield 9, 3, 1, 2, 0, 371), (63, .iload_n 1, 1, 0, 0, 0, 0), (64, .iaload, 1, 0, 0, 0, 0), (65, .isub, 1, 0, 0, 0, 0), (66, .goto 6, 3, 72, 0, 0, 0), (69, .iload_n 3, 1, 0, 0, 0, 0), (70, .iconst 1, 1, 0, 0, 0, 0), (71, .iadd, 1, 0, 0, 0, 0), (72, .iastore, 1, 0, 0, 0, 0), (73, .aload_n 0, 1, 0, 0, 0, 0), (74, .getfield 24, 3, 1, 6, 0, 378), (77, .iload_n 1, 1, 0, 0, 0, 0), (78, .aload_n 0, 1, 0, 0, 0, 0), (79, .getfield 21, 3, 1, 5, 0, 377), (82, .iload_n 1, 1, 0, 0, 0, 0), (83, .iaload, 1, 0, 0, 0, 0), (84, .aload_n 0, 1, 0, 0, 0, 0), (85, .getfield 9, 3, 1, 2, 0, 371), (88, .iload_n 1, 1, 0, 0, 0, 0), (89, .iaload, 1, 0, 0, 0, 0), (90, .iadd, 1, 0, 0, 0, 0), (91, .iconst 1, 1, 0, 0, 0, 0), (92, .isub, 1, 0, 0, 0, 0), (93, .iastore, 1, 0, 0, 0, 0), (94, .iload_n 2, 1, 0, 0, 0, 0), (95, .ifCond .eq 8, 3, 103, 0, 0, 0), (98, .iload_n 2, 1, 0, 0, 0, 0), (99, .iconst 4, 1, 0, 0, 0, 0), (100, .if_icmp .ne 7, 3, 107, 0, 0, 0), (103, .iconst 0, 1, 0, 0, 0, 0), (104, .goto 13, 3, 117, 0, 0, 0), (107, .iload_n 2, 1, 0, 0, 0, 0), (108, .iconst 4, 1, 0, 0, 0, 0), (109, .if_icmp .ge 7, 3, 116, 0, 0, 0), (112, .iconst 1, 1, 0, 0, 0, 0), (113, .goto 4, 3, 117, 0, 0, 0), (116, .iconst (-1), 1, 0, 0, 0, 0), (117, .istore 4, 2, 0, 0, 0, 0), (119, .aload_n 0, 1, 0, 0, 0, 0), (120, .getfield 27, 3, 1, 7, 0, 379), (123, .iload_n 1, 1, 0, 0, 0, 0), (124, .iconst 4, 1, 0, 0, 0, 0), (125, .aload_n 0, 1, 0, 0, 0, 0), (126, .getfield 34, 3, 1, 1, 0, 370), (129, .getfield 70, 3, 3, 3, 0, 209), (132, .iload_n 1, 1, 0, 0, 0, 0), (133, .iaload, 1, 0, 0, 0, 0), (134, .imul, 1, 0, 0, 0, 0), (135, .iload 4, 2, 0, 0, 0, 0), (137, .iadd, 1, 0, 0, 0, 0), (138, .iastore, 1, 0, 0, 0, 0), (139, .return_, 1, 0, 0, 0, 0)]
def mm_m26 : mm_M := (⟨"LineMap$Names", "lay", "(II)V"⟩, prog_3_method_5_code, 5, none, 1, mm_k26, 831, 830, 40, 87, 0)
theorem mm_c26 : mm_mchk mm_m26 = true := by decide +kernel
/-- LineMap$Names.obstacle(I)I -/
def mm_k27 : List mm_E := [(0, .iconst 0, 1, 0, 0, 0, 0), (1, .istore_n 2, 1, 0, 0, 0, 0), (2, .iload_n 2, 1, 0, 0, 0, 0), (3, .aload_n 0, 1, 0, 0, 0, 0), (4, .getfield 30, 3, 1, 0, 0, 369), (7, .getfield 47, 3, 2, 0, 0, 112), (10, .if_icmp .ge 61, 3, 71, 0, 0, 0), (13, .aload_n 0, 1, 0, 0, 0, 0), (14, .getfield 27, 3, 1, 7, 0, 379), (17, .iload_n 1, 1, 0, 0, 0, 0), (18, .iaload, 1, 0, 0, 0, 0), (19, .iconst 4, 1, 0, 0, 0, 0), (20, .aload_n 0, 1, 0, 0, 0, 0), (21, .getfield 34, 3, 1, 1, 0, 370), (24, .getfield 70, 3, 3, 3, 0, 209), (27, .iload_n 2, 1, 0, 0, 0, 0), (28, .iaload, 1, 0, 0, 0, 0), (29, .imul, 1, 0, 0, 0, 0), (30, .if_icmp .ne 35, 3, 65, 0, 0, 0), (33, .aload_n 0, 1, 0, 0, 0, 0), (34, .iload_n 1, 1, 0, 0, 0, 0), (35, .iconst 4, 1, 0, 0, 0, 0), (36, .aload_n 0, 1, 0, 0, 0, 0), (37, .getfield 34, 3, 1, 1, 0, 370), (40, .getfield 65, 3, 3, 2, 0, 206), (43, .iload_n 2, 1, 0, 0, 0, 0), (44, .iaload, 1, 0, 0, 0, 0), (45, .imul, 1, 0, 0, 0, 0), (46, .iconst 4, 1, 0, 0, 0, 0), (47, .aload_n 0, 1, 0, 0, 0, 0), (48, .getfield 34, 3, 1, 1, 0, 370), (51, .getfield 65, 3, 3, 2, 0, 206), (54, .iload_n 2, 1, 0, 0, 0, 0), (55, .iaload, 1, 0, 0, 0, 0), (56, .imul, 1, 0, 0, 0, 0), (57, .invokevirtual 73, 3, 28, 3, 1, 836), (60, .ifCond .eq 5, 3, 65, 0, 0, 0), (63, .iload_n 2, 1, 0, 0, 0, 0), (64, .ireturn, 1, 0, 0, 0, 0), (65, .iinc 2 1, 3, 0, 0, 0, 0), (68, .goto (-66), 3, 2, 0, 0, 0), (71, .iconst 0, 1, 0, 0, 0, 0), (72, .istore_n 2, 1, 0, 0, 0, 0), (73, .iload_n 2, 1, 0, 0, 0, 0), (74, .aload_n 0, 1, 0, 0, 0, 0), (75, .getfield 30, 3, 1, 0, 0, 369), (78, .getfield 77, 3, 2, 2, 0, 119), (81, .if_icmp .ge 40, 3, 121, 0, 0, 0), (84, .aload_n 0, 1, 0, 0, 0, 0), (85, .iload_n 1, 1, 0, 0, 0, 0), (86, .aload_n 0, 1, 0, 0, 0, 0), (87, .getfield 30, 3, 1, 0, 0, 369), (90, .getfield 80, 3, 2, 8, 0, 137), (93, .iload_n 2, 1, 0, 0, 0, 0), (94, .iaload, 1, 0, 0, 0, 0), (95, .aload_n 0, 1, 0, 0, 0, 0), (96, .getfield 30, 3, 1, 0, 0, 369), (99, .getfield 83, 3, 2, 9, 0, 142), (102, .iload_n 2, 1, 0, 0, 0, 0), (103, .iaload, 1, 0, 0, 0, 0), (104, .invokevirtual 86, 3, 29, 3, 1, 840), (107, .ifCond .eq 8, 3, 115, 0, 0, 0), (110, .bipush 100, 2, 0, 0, 0, 0), (112, .iload_n 2, 1, 0, 0, 0, 0), (113, .iadd, 1, 0, 0, 0, 0), (114, .ireturn, 1, 0, 0, 0, 0), (115, .iinc 2 1, 3, 0, 0, 0, 0), (118, .goto (-45), 3, 73, 0, 0, 0), (121, .iconst 0, 1, 0, 0, 0, 0), (122, .istore_n 2, 1, 0, 0, 0, 0), (123, .iload_n 2, 1, 0, 0, 0, 0), (124, .iload_n 1, 1, 0, 0, 0, 0), (125, .if_icmp .ge 60, 3, 185, 0, 0, 0), (128, .aload_n 0, 1, 0, 0, 0, 0), (129, .getfield 15, 3, 1, 3, 0, 373), (132, .iload_n 2, 1, 0, 0, 0, 0), (133, .iaload, 1, 0, 0, 0, 0), (134, .iconst (-1), 1, 0, 0, 0, 0), (135, .if_icmp .eq 44, 3, 179, 0, 0, 0), (138, .aload_n 0, 1, 0, 0, 0, 0), (139, .getfield 27, 3, 1, 7, 0, 379), (142, .iload_n 2, 1, 0, 0, 0, 0), (143, .iaload, 1, 0, 0, 0, 0), (144, .aload_n 0, 1, 0, 0, 0, 0), (145, .getfield 27, 3, 1, 7, 0, 379), (148, .iload_n 1, 1, 0, 0, 0, 0), (149, .iaload, 1, 0, 0, 0, 0), (150, .if_icmp .ne 29, 3, 179, 0, 0, 0), (153, .aload_n 0, 1, 0, 0, 0, 0), (154, .iload_n 1, 1, 0, 0, 0, 0), (155, .aload_n 0, 1, 0, 0, 0, 0), (156, .getfield 21, 3, 1, 5, 0, 377), (159, .iload_n 2, 1, 0, 0, 0, 0), (160, .iaload, 1, 0, 0, 0, 0), (161, .aload_n 0, 1, 0, 0, 0, 0), (162, .getfield 24, 3, 1, 6, 0, 378), (165, .iload_n 2, 1, 0, 0, 0, 0), (166, .iaload, 1, 0, 0, 0, 0), (167, .invokevirtual 73, 3, 28, 3, 1, 836), (170, .ifCond .eq 9, 3, 179, 0, 0, 0), (173, .sipush 200, 3, 0, 0, 0, 0), (176, .iload_n 2, 1, 0, 0, 0, 0), (177, .iadd, 1, 0, 0, 0, 0), (178, .ireturn, 1, 0, 0, 0, 0), (179, .iinc 2 1, 3, 0, 0, 0, 0), (182, .goto (-59), 3, 123, 0, 0, 0), (185, .iconst (-1), 1, 0, 0, 0, 0), (186, .ireturn, 1, 0, 0, 0, 0)]
def mm_m27 : mm_M := (⟨"LineMap$Names", "obstacle", "(I)I"⟩, prog_3_method_6_code, 3, some .int, 1, mm_k27, 835, 834, 41, 87, 0)
theorem mm_c27 : mm_mchk mm_m27 = true := by decide +kernel
end
section
/-- LineMap$Names.isUnder(III)Z -/
def mm_k28 : List mm_E := [(0, .aload_n 0, 1, 0, 0, 0, 0), (1, .getfield 21, 3, 1, 5, 0, 377), (4, .iload_n 1, 1, 0, 0, 0, 0), (5, .iaload, 1, 0, 0, 0, 0), (6, .iload_n 3, 1, 0, 0, 0, 0), (7, .if_icmp .gt 17, 3, 24, 0, 0, 0), (10, .iload_n 2, 1, 0, 0, 0, 0), (11, .aload_n 0, 1, 0, 0, 0, 0), (12, .getfield 24, 3, 1, 6, 0, 378), (15, .iload_n 1, 1, 0, 0, 0, 0), (16, .iaload, 1, 0, 0, 0, 0), (17, .if_icmp .gt 7, 3, 24, 0, 0, 0), (20, .iconst 1, 1, 0, 0, 0, 0), (21, .goto 4, 3, 25, 0, 0, 0), (24, .iconst 0, 1, 0, 0, 0, 0), (25, .ireturn, 1, 0, 0, 0, 0)]
def mm_m28 : mm_M := (⟨"LineMap$Names", "isUnder", "(III)Z"⟩, prog_3_method_7_code, 4, some .boolean, 1, mm_k28, 839, 838, 42, 87, 0)
theorem mm_c28 : mm_mchk mm_m28 = true := by decide +kernel
/-- LineMap$Names.isOnEdge(III)Z -/
def mm_k29 : List mm_E := [(0, .iconst 4, 1, 0, 0, 0, 0), (1, .aload_n 0, 1, 0, 0, 0, 0), (2, .getfield 34, 3, 1, 1, 0, 370), (5, .getfield 65, 3, 3, 2, 0, 206), (8, .iload_n 2, 1, 0, 0, 0, 0), (9, .iaload, 1, 0, 0, 0, 0), (10, .imul, 1, 0, 0, 0, 0), (11, .istore 4, 2, 0, 0, 0, 0), (13, .iconst 4, 1, 0, 0, 0, 0), (14, .aload_n 0, 1, 0, 0, 0, 0), (15, .getfield 34, 3, 1, 1, 0, 370), (18, .getfield 70, 3, 3, 3, 0, 209), (21, .iload_n 2, 1, 0, 0, 0, 0), (22, .iaload, 1, 0, 0, 0, 0), (23, .imul, 1, 0, 0, 0, 0), (24, .istore 5, 2, 0, 0, 0, 0), (26, .iconst 4, 1, 0, 0, 0, 0), (27, .aload_n 0, 1, 0, 0, 0, 0), (28, .getfield 34, 3, 1, 1, 0, 370), (31, .getfield 65, 3, 3, 2, 0, 206), (34, .iload_n 3, 1, 0, 0, 0, 0), (35, .iaload, 1, 0, 0, 0, 0), (36, .imul, 1, 0, 0, 0, 0), (37, .istore 6, 2, 0, 0, 0, 0), (39, .iconst 4, 1, 0, 0, 0, 0), (40, .aload_n 0, 1, 0, 0, 0, 0), (41, .getfield 34, 3, 1, 1, 0, 370), (44, .getfield 70, 3, 3, 3, 0, 209), (47, .iload_n 3, 1, 0, 0, 0, 0), (48, .iaload, 1, 0, 0, 0, 0), (49, .imul, 1, 0, 0, 0, 0), (50, .istore 7, 2, 0, 0, 0, 0), (52, .aload_n 0, 1, 0, 0, 0, 0), (53, .getfield 27, 3, 1, 7, 0, 379), (56, .iload_n 1, 1, 0, 0, 0, 0), (57, .iaload, 1, 0, 0, 0, 0), (58, .iload 5, 2, 0, 0, 0, 0), (60, .iload 7, 2, 0, 0, 0, 0), (62, .invokestatic 89, 3, 0, 0, 12, 844), (65, .if_icmp .lt 19, 3, 84, 0, 0, 0), (68, .aload_n 0, 1, 0, 0, 0, 0), (69, .getfield 27, 3, 1, 7, 0, 379), (72, .iload_n 1, 1, 0, 0, 0, 0), (73, .iaload, 1, 0, 0, 0, 0), (74, .iload 5, 2, 0, 0, 0, 0), (76, .iload 7, 2, 0, 0, 0, 0), (78, .invokestatic 95, 3, 0, 0, 11, 845), (81, .if_icmp .le 5, 3, 86, 0, 0, 0), (84, .iconst 0, 1, 0, 0, 0, 0), (85, .ireturn, 1, 0, 0, 0, 0), (86, .iload 5, 2, 0, 0, 0, 0), (88, .iload 7, 2, 0, 0, 0, 0), (90, .if_icmp .ne 23, 3, 113, 0, 0, 0), (93, .aload_n 0, 1, 0, 0, 0, 0), (94, .iload_n 1, 1, 0, 0, 0, 0), (95, .iload 4, 2, 0, 0, 0, 0), (97, .iload 6, 2, 0, 0, 0, 0), (99, .invokestatic 89, 3, 0, 0, 12, 844), (102, .iload 4, 2, 0, 0, 0, 0), (104, .iload 6, 2, 0, 0, 0, 0), (106, .invokestatic 95, 3, 0, 0, 11, 845), (109, .invokevirtual 73, 3, 28, 3, 1, 836), (112, .ireturn, 1, 0, 0, 0, 0), (113, .aload_n 0, 1, 0, 0, 0, 0), (114, .getfield 27, 3, 1, 7, 0, 379), (117, .iload_n 1, 1, 0, 0, 0, 0), (118, .iaload, 1, 0, 0, 0, 0), (119, .iload 5, 2, 0, 0, 0, 0), (121, .isub, 1, 0, 0, 0, 0), (122, .invokestatic 98, 3, 0, 0, 10, 846), (125, .istore 8, 2, 0, 0, 0, 0), (127, .iload 6, 2, 0, 0, 0, 0), (129, .iload 4, 2, 0, 0, 0, 0), (131, .if_icmp .ne 8, 3, 139, 0, 0, 0), (134, .iload 4, 2, 0, 0, 0, 0), (136, .goto 23, 3, 159, 0, 0, 0), (139, .iload 6, 2, 0, 0, 0, 0), (141, .iload 4, 2, 0, 0, 0, 0), (143, .if_icmp .le 11, 3, 154, 0, 0, 0), (146, .iload 4, 2, 0, 0, 0, 0), (148, .iload 8, 2, 0, 0, 0, 0), (150, .iadd, 1, 0, 0, 0, 0), (151, .goto 8, 3, 159, 0, 0, 0), (154, .iload 4, 2, 0, 0, 0, 0), (156, .iload 8, 2, 0, 0, 0, 0), (158, .isub, 1, 0, 0, 0, 0), (159, .istore 9, 2, 0, 0, 0, 0), (161, .aload_n 0, 1, 0, 0, 0, 0), (162, .iload_n 1, 1, 0, 0, 0, 0), (163, .iload 9, 2, 0, 0, 0, 0), (165, .iload 9, 2, 0, 0, 0, 0), (167, .invokevirtual 73, 3, 28, 3, 1, 836), (170, .ireturn, 1, 0, 0, 0, 0)]
def mm_m29 : mm_M := (⟨"LineMap$Names", "isOnEdge", "(III)Z"⟩, prog_3_method_8_code, 10, some .boolean, 1, mm_k29, 843, 842, 43, 87, 0)
theorem mm_c29 : mm_mchk mm_m29 = true := by decide +kernel
/-- LineMap$Net.<init>()V -/
def mm_k30 : List mm_E := [(0, .aload_n 0, 1, 0, 0, 0, 0), (1, .invokespecial 3, 3, 0, 0, 2, 103), (4, .aload_n 0, 1, 0, 0, 0, 0), (5, .bipush 10, 2, 0, 0, 0, 0), (7, .newarray .int, 2, 0, 0, 0, 0), (9, .putfield 9, 3, 2, 3, 2, 123), (12, .aload_n 0, 1, 0, 0, 0, 0), (13, .bipush 10, 2, 0, 0, 0, 0), (15, .newarray .int, 2, 0, 0, 0, 0), (17, .putfield 15, 3, 2, 4, 2, 124), (20, .aload_n 0, 1, 0, 0, 0, 0), (21, .bipush 6, 2, 0, 0, 0, 0), (23, .newarray .int, 2, 0, 0, 0, 0), (25, .putfield 18, 3, 2, 5, 2, 125), (28, .aload_n 0, 1, 0, 0, 0, 0), (29, .bipush 6, 2, 0, 0, 0, 0), (31, .bipush 10, 2, 0, 0, 0, 0), (33, .multianewarray 21 2, 4, 0, 0, 0, 104), (37, .putfield 23, 3, 2, 6, 2, 128), (40, .aload_n 0, 1, 0, 0, 0, 0), (41, .bipush 6, 2, 0, 0, 0, 0), (43, .bipush 10, 2, 0, 0, 0, 0), (45, .multianewarray 21 2, 4, 0, 0, 0, 104), (49, .putfield 26, 3, 2, 7, 2, 131), (52, .aload_n 0, 1, 0, 0, 0, 0), (53, .bipush 45, 2, 0, 0, 0, 0), (55, .newarray .int, 2, 0, 0, 0, 0), (57, .putfield 29, 3, 2, 8, 2, 134), (60, .aload_n 0, 1, 0, 0, 0, 0), (61, .bipush 45, 2, 0, 0, 0, 0), (63, .newarray .int, 2, 0, 0, 0, 0), (65, .putfield 32, 3, 2, 9, 2, 139), (68, .aload_n 0, 1, 0, 0, 0, 0), (69, .bipush 45, 2, 0, 0, 0, 0), (71, .newarray .int, 2, 0, 0, 0, 0), (73, .putfield 35, 3, 2, 10, 2, 144), (76, .aload_n 0, 1, 0, 0, 0, 0), (77, .bipush 10, 2, 0, 0, 0, 0), (79, .newarray .int, 2, 0, 0, 0, 0), (81, .putfield 38, 3, 2, 11, 2, 147), (84, .aload_n 0, 1, 0, 0, 0, 0), (85, .bipush 10, 2, 0, 0, 0, 0), (87, .bipush 10, 2, 0, 0, 0, 0), (89, .multianewarray 21 2, 4, 0, 0, 0, 104), (93, .putfield 41, 3, 2, 12, 2, 152), (96, .aload_n 0, 1, 0, 0, 0, 0), (97, .bipush 10, 2, 0, 0, 0, 0), (99, .bipush 10, 2, 0, 0, 0, 0), (101, .multianewarray 21 2, 4, 0, 0, 0, 104), (105, .putfield 44, 3, 2, 13, 2, 157), (108, .iconst 0, 1, 0, 0, 0, 0), (109, .istore_n 1, 1, 0, 0, 0, 0), (110, .iload_n 1, 1, 0, 0, 0, 0), (111, .bipush 6, 2, 0, 0, 0, 0), (113, .if_icmp .ge 19, 3, 132, 0, 0, 0), (116, .aload_n 0, 1, 0, 0, 0, 0), (117, .getfield 26, 3, 2, 7, 0, 131), (120, .iload_n 1, 1, 0, 0, 0, 0), (121, .aaload, 1, 0, 0, 0, 0), (122, .iconst (-1), 1, 0, 0, 0, 0), (123, .invokestatic 47, 3, 178, 2, 0, 106), (126, .iinc 1 1, 3, 0, 0, 0, 0), (129, .goto (-19), 3, 110, 0, 0, 0), (132, .iconst 0, 1, 0, 0, 0, 0), (133, .istore_n 1, 1, 0, 0, 0, 0), (134, .iload_n 1, 1, 0, 0, 0, 0), (135, .bipush 10, 2, 0, 0, 0, 0), (137, .if_icmp .ge 19, 3, 156, 0, 0, 0), (140, .aload_n 0, 1, 0, 0, 0, 0), (141, .getfield 44, 3, 2, 13, 0, 157), (144, .iload_n 1, 1, 0, 0, 0, 0), (145, .aaload, 1, 0, 0, 0, 0), (146, .iconst (-1), 1, 0, 0, 0, 0), (147, .invokestatic 47, 3, 178, 2, 0, 106), (150, .iinc 1 1, 3, 0, 0, 0, 0), (153, .goto (-19), 3, 134, 0, 0, 0), (156, .return_, 1, 0, 0, 0, 0)]
def mm_m30 : mm_M := (⟨"LineMap$Net", "<init>", "()V"⟩, prog_4_method_1_code, 2, none, 2, mm_k30, 102, 101, 0, 80, 2)
theorem mm_c30 : mm_mchk mm_m30 = true := by decide +kernel
/-- LineMap$Net.isStation(I)Z -/
def mm_k31 : List mm_E := [(0, .iload_n 1, 1, 0, 0, 0, 0), (1, .ifCond .lt 15, 3, 16, 0, 0, 0), (4, .iload_n 1, 1, 0, 0, 0, 0), (5, .aload_n 0, 1, 0, 0, 0, 0), (6, .getfield 53, 3, 2, 0, 0, 109), (9, .if_icmp .ge 7, 3, 16, 0, 0, 0), (12, .iconst 1, 1, 0, 0, 0, 0), (13, .goto 4, 3, 17, 0, 0, 0), (16, .iconst 0, 1, 0, 0, 0, 0), (17, .ireturn, 1, 0, 0, 0, 0)]
def mm_m31 : mm_M := (⟨"LineMap$Net", "isStation", "(I)Z"⟩, prog_4_method_2_code, 2, some .boolean, 2, mm_k31, 471, 469, 470, 80, 0)
theorem mm_c31 : mm_mchk mm_m31 = true := by decide +kernel
/-- LineMap$Net.isLine(I)Z -/
def mm_k32 : List mm_E := [(0, .iload_n 1, 1, 0, 0, 0, 0), (1, .ifCond .lt 15, 3, 16, 0, 0, 0), (4, .iload_n 1, 1, 0, 0, 0, 0), (5, .aload_n 0, 1, 0, 0, 0, 0), (6, .getfield 57, 3, 2, 1, 0, 115), (9, .if_icmp .ge 7, 3, 16, 0, 0, 0), (12, .iconst 1, 1, 0, 0, 0, 0), (13, .goto 4, 3, 17, 0, 0, 0), (16, .iconst 0, 1, 0, 0, 0, 0), (17, .ireturn, 1, 0, 0, 0, 0)]
def mm_m32 : mm_M := (⟨"LineMap$Net", "isLine", "(I)Z"⟩, prog_4_method_3_code, 2, some .boolean, 2, mm_k32, 467, 465, 466, 80, 0)
theorem mm_c32 : mm_mchk mm_m32 = true := by decide +kernel
/-- LineMap$Net.hasStationAt(II)Z -/
def mm_k33 : List mm_E := [(0, .iconst 0, 1, 0, 0, 0, 0), (1, .istore_n 3, 1, 0, 0, 0, 0), (2, .iload_n 3, 1, 0, 0, 0, 0), (3, .aload_n 0, 1, 0, 0, 0, 0), (4, .getfield 53, 3, 2, 0, 0, 109), (7, .if_icmp .ge 31, 3, 38, 0, 0, 0), (10, .aload_n 0, 1, 0, 0, 0, 0), (11, .getfield 9, 3, 2, 3, 0, 123), (14, .iload_n 3, 1, 0, 0, 0, 0), (15, .iaload, 1, 0, 0, 0, 0), (16, .iload_n 1, 1, 0, 0, 0, 0), (17, .if_icmp .ne 15, 3, 32, 0, 0, 0), (20, .aload_n 0, 1, 0, 0, 0, 0), (21, .getfield 15, 3, 2, 4, 0, 124), (24, .iload_n 3, 1, 0, 0, 0, 0), (25, .iaload, 1, 0, 0, 0, 0), (26, .iload_n 2, 1, 0, 0, 0, 0), (27, .if_icmp .ne 5, 3, 32, 0, 0, 0), (30, .iconst 1, 1, 0, 0, 0, 0), (31, .ireturn, 1, 0, 0, 0, 0), (32, .iinc 3 1, 3, 0, 0, 0, 0), (35, .goto (-33), 3, 2, 0, 0, 0), (38, .iconst 0, 1, 0, 0, 0, 0), (39, .ireturn, 1, 0, 0, 0, 0)]
def mm_m33 : mm_M := (⟨"LineMap$Net", "hasStationAt", "(II)Z"⟩, prog_4_method_4_code, 4, some .boolean, 2, mm_k33, 443, 441, 442, 80, 0)
theorem mm_c33 : mm_mchk mm_m33 = true := by decide +kernel
/-- LineMap$Net.addStation(II)I -/
def mm_k34 : List mm_E := [(0, .aload_n 0, 1, 0, 0, 0, 0), (1, .getfield 9, 3, 2, 3, 0, 123), (4, .aload_n 0, 1, 0, 0, 0, 0), (5, .getfield 53, 3, 2, 0, 0, 109), (8, .iload_n 1, 1, 0, 0, 0, 0), (9, .iastore, 1, 0, 0, 0, 0), (10, .aload_n 0, 1, 0, 0, 0, 0), (11, .getfield 15, 3, 2, 4, 0, 124), (14, .aload_n 0, 1, 0, 0, 0, 0), (15, .getfield 53, 3, 2, 0, 0, 109), (18, .iload_n 2, 1, 0, 0, 0, 0), (19, .iastore, 1, 0, 0, 0, 0), (20, .aload_n 0, 1, 0, 0, 0, 0), (21, .dup, 1, 0, 0, 0, 0), (22, .getfield 53, 3, 2, 0, 0, 109), (25, .iconst 1, 1, 0, 0, 0, 0), (26, .iadd, 1, 0, 0, 0, 0), (27, .putfield 53, 3, 2, 0, 0, 109), (30, .aload_n 0, 1, 0, 0, 0, 0), (31, .getfield 53, 3, 2, 0, 0, 109), (34, .iconst 1, 1, 0, 0, 0, 0), (35, .isub, 1, 0, 0, 0, 0), (36, .ireturn, 1, 0, 0, 0, 0)]
def mm_m34 : mm_M := (⟨"LineMap$Net", "addStation", "(II)I"⟩, prog_4_method_5_code, 3, some .int, 2, mm_k34, 447, 445, 446, 80, 0)
theorem mm_c34 : mm_mchk mm_m34 = true := by decide +kernel
/-- LineMap$Net.addLine()I -/
def mm_k35 : List mm_E := [(0, .aload_n 0, 1, 0, 0, 0, 0), (1, .dup, 1, 0, 0, 0, 0), (2, .getfield 57, 3, 2, 1, 0, 115), (5, .iconst 1, 1, 0, 0, 0, 0), (6, .iadd, 1, 0, 0, 0, 0), (7, .putfield 57, 3, 2, 1, 0, 115), (10, .aload_n 0, 1, 0, 0, 0, 0), (11, .getfield 57, 3, 2, 1, 0, 115), (14, .iconst 1, 1, 0, 0, 0, 0), (15, .isub, 1, 0, 0, 0, 0), (16, .ireturn, 1, 0, 0, 0, 0)]
def mm_m35 : mm_M := (⟨"LineMap$Net", "addLine", "()I"⟩, prog_4_method_6_code, 1, some .int, 2, mm_k35, 459, 457, 458, 80, 0)
theorem mm_c35 : mm_mchk mm_m35 = true := by decide +kernel
/-- LineMap$Net.extend(II)I -/
def mm_k36 : List mm_E := [(0, .aload_n 0, 1, 0, 0, 0, 0), (1, .getfield 18, 3, 2, 5, 0, 125), (4, .iload_n 1, 1, 0, 0, 0, 0), (5, .iaload, 1, 0, 0, 0, 0), (6, .istore_n 3, 1, 0, 0, 0, 0), (7, .aload_n 0, 1, 0, 0, 0, 0), (8, .getfield 23, 3, 2, 6, 0, 128), (11, .iload_n 1, 1, 0, 0, 0, 0), (12, .aaload, 1, 0, 0, 0, 0), (13, .iload_n 3, 1, 0, 0, 0, 0), (14, .iload_n 2, 1, 0, 0, 0, 0), (15, .iastore, 1, 0, 0, 0, 0), (16, .aload_n 0, 1, 0, 0, 0, 0), (17, .getfield 26, 3, 2, 7, 0, 131), (20, .iload_n 1, 1, 0, 0, 0, 0), (21, .aaload, 1, 0, 0, 0, 0), (22, .iload_n 2, 1, 0, 0, 0, 0), (23, .iload_n 3, 1, 0, 0, 0, 0), (24, .iastore, 1, 0, 0, 0, 0), (25, .aload_n 0, 1, 0, 0, 0, 0), (26, .getfield 18, 3, 2, 5, 0, 125), (29, .iload_n 1, 1, 0, 0, 0, 0), (30, .iload_n 3, 1, 0, 0, 0, 0), (31, .iconst 1, 1, 0, 0, 0, 0), (32, .iadd, 1, 0, 0, 0, 0), (33, .iastore, 1, 0, 0, 0, 0), (34, .iload_n 3, 1, 0, 0, 0, 0), (35, .ifCond .le 39, 3, 74, 0, 0, 0), (38, .aload_n 0, 1, 0, 0, 0, 0), (39, .getfield 44, 3, 2, 13, 0, 157), (42, .aload_n 0, 1, 0, 0, 0, 0), (43, .getfield 23, 3, 2, 6, 0, 128), (46, .iload_n 1, 1, 0, 0, 0, 0), (47, .aaload, 1, 0, 0, 0, 0), (48, .iload_n 3, 1, 0, 0, 0, 0), (49, .iconst 1, 1, 0, 0, 0, 0), (50, .isub, 1, 0, 0, 0, 0), (51, .iaload, 1, 0, 0, 0, 0), (52, .aaload, 1, 0, 0, 0, 0), (53, .iload_n 2, 1, 0, 0, 0, 0), (54, .iaload, 1, 0, 0, 0, 0), (55, .iconst (-1), 1, 0, 0, 0, 0), (56, .if_icmp .ne 18, 3, 74, 0, 0, 0), (59, .aload_n 0, 1, 0, 0, 0, 0), (60, .aload_n 0, 1, 0, 0, 0, 0), (61, .getfield 23, 3, 2, 6, 0, 128), (64, .iload_n 1, 1, 0, 0, 0, 0), (65, .aaload, 1, 0, 0, 0, 0), (66, .iload_n 3, 1, 0, 0, 0, 0), (67, .iconst 1, 1, 0, 0, 0, 0), (68, .isub, 1, 0, 0, 0, 0), (69, .iaload, 1, 0, 0, 0, 0), (70, .iload_n 2, 1, 0, 0, 0, 0), (71, .invokevirtual 60, 3, 37, 2, 2, 476), (74, .iload_n 3, 1, 0, 0, 0, 0), (75, .iconst 1, 1, 0, 0, 0, 0), (76, .iadd, 1, 0, 0, 0, 0), (77, .ireturn, 1, 0, 0, 0, 0)]
def mm_m36 : mm_M := (⟨"LineMap$Net", "extend", "(II)I"⟩, prog_4_method_7_code, 4, some .int, 2, mm_k36, 475, 473, 474, 80, 0)
theorem mm_c36 : mm_mchk mm_m36 = true := by decide +kernel
/-- LineMap$Net.join(II)V -/
def mm_k37 : List mm_E := [(0, .aload_n 0, 1, 0, 0, 0, 0), (1, .getfield 44, 3, 2, 13, 0, 157), (4, .iload_n 1, 1, 0, 0, 0, 0), (5, .aaload, 1, 0, 0, 0, 0), (6, .iload_n 2, 1, 0, 0, 0, 0), (7, .iconst 0, 1, 0, 0, 0, 0), (8, .iastore, 1, 0, 0, 0, 0), (9, .aload_n 0, 1, 0, 0, 0, 0), (10, .getfield 44, 3, 2, 13, 0, 157), (13, .iload_n 2, 1, 0, 0, 0, 0), (14, .aaload, 1, 0, 0, 0, 0), (15, .iload_n 1, 1, 0, 0, 0, 0), (16, .iconst 0, 1, 0, 0, 0, 0), (17, .iastore, 1, 0, 0, 0, 0), (18, .aload_n 0, 1, 0, 0, 0, 0), (19, .invokevirtual 64, 3, 38, 0, 2, 480), (22, .aload_n 0, 1, 0, 0, 0, 0), (23, .iload_n 1, 1, 0, 0, 0, 0), (24, .iload_n 2, 1, 0, 0, 0, 0), (25, .invokevirtual 67, 3, 40, 2, 2, 490), (28, .aload_n 0, 1, 0, 0, 0, 0), (29, .iload_n 2, 1, 0, 0, 0, 0), (30, .iload_n 1, 1, 0, 0, 0, 0), (31, .invokevirtual 67, 3, 40, 2, 2, 490), (34, .return_, 1, 0, 0, 0, 0)]
def mm_m37 : mm_M := (⟨"LineMap$Net", "join", "(II)V"⟩, prog_4_method_8_code, 3, none, 2, mm_k37, 479, 478, 3, 80, 0)
theorem mm_c37 : mm_mchk mm_m37 = true := by decide +kernel
/-- LineMap$Net.numberEdges()V -/
def mm_k38 : List mm_E := [(0, .aload_n 0, 1, 0, 0, 0, 0), (1, .iconst 0, 1, 0, 0, 0, 0), (2, .putfield 70, 3, 2, 2, 0, 122), (5, .iconst 0, 1, 0, 0, 0, 0), (6, .istore_n 1, 1, 0, 0, 0, 0), (7, .iload_n 1, 1, 0, 0, 0, 0), (8, .aload_n 0, 1, 0, 0, 0, 0), (9, .getfield 53, 3, 2, 0, 0, 109), (12, .if_icmp .ge 140, 3, 152, 0, 0, 0), (15, .iload_n 1, 1, 0, 0, 0, 0), (16, .iconst 1, 1, 0, 0, 0, 0), (17, .iadd, 1, 0, 0, 0, 0), (18, .istore_n 2, 1, 0, 0, 0, 0), (19, .iload_n 2, 1, 0, 0, 0, 0), (20, .aload_n 0, 1, 0, 0, 0, 0), (21, .getfield 53, 3, 2, 0, 0, 109), (24, .if_icmp .ge 122, 3, 146, 0, 0, 0), (27, .aload_n 0, 1, 0, 0, 0, 0), (28, .getfield 44, 3, 2, 13, 0, 157), (31, .iload_n 1, 1, 0, 0, 0, 0), (32, .aaload, 1, 0, 0, 0, 0), (33, .iload_n 2, 1, 0, 0, 0, 0), (34, .iaload, 1, 0, 0, 0, 0), (35, .iconst (-1), 1, 0, 0, 0, 0), (36, .if_icmp .eq 104, 3, 140, 0, 0, 0), (39, .aload_n 0, 1, 0, 0, 0, 0), (40, .getfield 70, 3, 2, 2, 0, 122), (43, .bipush 45, 2, 0, 0, 0, 0), (45, .if_icmp .ge 95, 3, 140, 0, 0, 0), (48, .aload_n 0, 1, 0, 0, 0, 0), (49, .getfield 44, 3, 2, 13, 0, 157), (52, .iload_n 1, 1, 0, 0, 0, 0), (53, .aaload, 1, 0, 0, 0, 0), (54, .iload_n 2, 1, 0, 0, 0, 0), (55, .aload_n 0, 1, 0, 0, 0, 0), (56, .getfield 70, 3, 2, 2, 0, 122), (59, .iastore, 1, 0, 0, 0, 0), (60, .aload_n 0, 1, 0, 0, 0, 0), (61, .getfield 44, 3, 2, 13, 0, 157), (64, .iload_n 2, 1, 0, 0, 0, 0), (65, .aaload, 1, 0, 0, 0, 0), (66, .iload_n 1, 1, 0, 0, 0, 0), (67, .aload_n 0, 1, 0, 0, 0, 0), (68, .getfield 70, 3, 2, 2, 0, 122), (71, .iastore, 1, 0, 0, 0, 0), (72, .aload_n 0, 1, 0, 0, 0, 0), (73, .getfield 29, 3, 2, 8, 0, 134), (76, .aload_n 0, 1, 0, 0, 0, 0), (77, .getfield 70, 3, 2, 2, 0, 122), (80, .iload_n 1, 1, 0, 0, 0, 0), (81, .iastore, 1, 0, 0, 0, 0), (82, .aload_n 0, 1, 0, 0, 0, 0), (83, .getfield 32, 3, 2, 9, 0, 139), (86, .aload_n 0, 1, 0, 0, 0, 0), (87, .getfield 70, 3, 2, 2, 0, 122), (90, .iload_n 2, 1, 0, 0, 0, 0), (91, .iastore, 1, 0, 0, 0, 0), (92, .aload_n 0, 1, 0, 0, 0, 0), (93, .getfield 35, 3, 2, 10, 0, 144), (96, .aload_n 0, 1, 0, 0, 0, 0), (97, .getfield 70, 3, 2, 2, 0, 122), (100, .aload_n 0, 1, 0, 0, 0, 0), (101, .getfield 9, 3, 2, 3, 0, 123), (104, .iload_n 2, 1, 0, 0, 0, 0), (105, .iaload, 1, 0, 0, 0, 0), (106, .aload_n 0, 1, 0, 0, 0, 0), (107, .getfield 9, 3, 2, 3, 0, 123), (110, .iload_n 1, 1, 0, 0, 0, 0), (111, .iaload, 1, 0, 0, 0, 0), (112, .isub, 1, 0, 0, 0, 0), (113, .aload_n 0, 1, 0, 0, 0, 0), (114, .getfield 15, 3, 2, 4, 0, 124), (117, .iload_n 2, 1, 0, 0, 0, 0), (118, .iaload, 1, 0, 0, 0, 0), (119, .aload_n 0, 1, 0, 0, 0, 0), (120, .getfield 15, 3, 2, 4, 0, 124), (123, .iload_n 1, 1, 0, 0, 0, 0), (124, .iaload, 1, 0, 0, 0, 0), (125, .isub, 1, 0, 0, 0, 0), (126, .invokestatic 73, 3, 39, 2, 0, 484), (129, .iastore, 1, 0, 0, 0, 0), (130, .aload_n 0, 1, 0, 0, 0, 0), (131, .dup, 1, 0, 0, 0, 0), (132, .getfield 70, 3, 2, 2, 0, 122), (135, .iconst 1, 1, 0, 0, 0, 0), (136, .iadd, 1, 0, 0, 0, 0), (137, .putfield 70, 3, 2, 2, 0, 122), (140, .iinc 2 1, 3, 0, 0, 0, 0), (143, .goto (-124), 3, 19, 0, 0, 0), (146, .iinc 1 1, 3, 0, 0, 0, 0), (149, .goto (-142), 3, 7, 0, 0, 0), (152, .return_, 1, 0, 0, 0, 0)]
def mm_m38 : mm_M := (⟨"LineMap$Net", "numberEdges", "()V"⟩, prog_4_method_9_code, 3, none, 2, mm_k38, 483, 482, 4, 80, 0)
theorem mm_c38 : mm_mchk mm_m38 = true := by decide +kernel
/-- LineMap$Net.trueDirection(II)I -/
def mm_k39 : List mm_E := [(0, .iload_n 0, 1, 0, 0, 0, 0), (1, .invokestatic 77, 3, 0, 0, 10, 487), (4, .istore_n 2, 1, 0, 0, 0, 0), (5, .iload_n 1, 1, 0, 0, 0, 0), (6, .invokestatic 77, 3, 0, 0, 10, 487), (9, .istore_n 3, 1, 0, 0, 0, 0), (10, .sipush 1000, 3, 0, 0, 0, 0), (13, .iload_n 3, 1, 0, 0, 0, 0), (14, .imul, 1, 0, 0, 0, 0), (15, .sipush 414, 3, 0, 0, 0, 0), (18, .iload_n 2, 1, 0, 0, 0, 0), (19, .imul, 1, 0, 0, 0, 0), (20, .if_icmp .ge 13, 3, 33, 0, 0, 0), (23, .iload_n 0, 1, 0, 0, 0, 0), (24, .ifCond .ge 7, 3, 31, 0, 0, 0), (27, .iconst 4, 1, 0, 0, 0, 0), (28, .goto 4, 3, 32, 0, 0, 0), (31, .iconst 0, 1, 0, 0, 0, 0), (32, .ireturn, 1, 0, 0, 0, 0), (33, .sipush 1000, 3, 0, 0, 0, 0), (36, .iload_n 2, 1, 0, 0, 0, 0), (37, .imul, 1, 0, 0, 0, 0), (38, .sipush 414, 3, 0, 0, 0, 0), (41, .iload_n 3, 1, 0, 0, 0, 0), (42, .imul, 1, 0, 0, 0, 0), (43, .if_icmp .ge 14, 3, 57, 0, 0, 0), (46, .iload_n 1, 1, 0, 0, 0, 0), (47, .ifCond .ge 8, 3, 55, 0, 0, 0), (50, .bipush 6, 2, 0, 0, 0, 0), (52, .goto 4, 3, 56, 0, 0, 0), (55, .iconst 2, 1, 0, 0, 0, 0), (56, .ireturn, 1, 0, 0, 0, 0), (57, .iload_n 1, 1, 0, 0, 0, 0), (58, .ifCond .le 13, 3, 71, 0, 0, 0), (61, .iload_n 0, 1, 0, 0, 0, 0), (62, .ifCond .le 7, 3, 69, 0, 0, 0), (65, .iconst 1, 1, 0, 0, 0, 0), (66, .goto 4, 3, 70, 0, 0, 0), (69, .iconst 3, 1, 0, 0, 0, 0), (70, .ireturn, 1, 0, 0, 0, 0), (71, .iload_n 0, 1, 0, 0, 0, 0), (72, .ifCond .ge 7, 3, 79, 0, 0, 0), (75, .iconst 5, 1, 0, 0, 0, 0), (76, .goto 5, 3, 81, 0, 0, 0), (79, .bipush 7, 2, 0, 0, 0, 0), (81, .ireturn, 1, 0, 0, 0, 0)]
def mm_m39 : mm_M := (⟨"LineMap$Net", "trueDirection", "(II)I"⟩, prog_4_method_10_code, 4, some .int, 2, mm_k39, 486, 485, 0, 80, 1)
theorem mm_c39 : mm_mchk mm_m39 = true := by decide +kernel
/-- LineMap$Net.addToRing(II)V -/
def mm_k40 : List mm_E := [(0, .aload_n 0, 1, 0, 0, 0, 0), (1, .getfield 38, 3, 2, 11, 0, 147), (4, .iload_n 1, 1, 0, 0, 0, 0), (5, .iaload, 1, 0, 0, 0, 0), (6, .istore_n 3, 1, 0, 0, 0, 0), (7, .iload_n 3, 1, 0, 0, 0, 0), (8, .ifCond .le 46, 3, 54, 0, 0, 0), (11, .aload_n 0, 1, 0, 0, 0, 0), (12, .iload_n 1, 1, 0, 0, 0, 0), (13, .iload_n 2, 1, 0, 0, 0, 0), (14, .aload_n 0, 1, 0, 0, 0, 0), (15, .getfield 41, 3, 2, 12, 0, 152), (18, .iload_n 1, 1, 0, 0, 0, 0), (19, .aaload, 1, 0, 0, 0, 0), (20, .iload_n 3, 1, 0, 0, 0, 0), (21, .iconst 1, 1, 0, 0, 0, 0), (22, .isub, 1, 0, 0, 0, 0), (23, .iaload, 1, 0, 0, 0, 0), (24, .invokevirtual 83, 3, 41, 3, 2, 494), (27, .ifCond .eq 27, 3, 54, 0, 0, 0), (30, .aload_n 0, 1, 0, 0, 0, 0), (31, .getfield 41, 3, 2, 12, 0, 152), (34, .iload_n 1, 1, 0, 0, 0, 0), (35, .aaload, 1, 0, 0, 0, 0), (36, .iload_n 3, 1, 0, 0, 0, 0), (37, .aload_n 0, 1, 0, 0, 0, 0), (38, .getfield 41, 3, 2, 12, 0, 152), (41, .iload_n 1, 1, 0, 0, 0, 0), (42, .aaload, 1, 0, 0, 0, 0), (43, .iload_n 3, 1, 0, 0, 0, 0), (44, .iconst 1, 1, 0, 0, 0, 0), (45, .isub, 1, 0, 0, 0, 0), (46, .iaload, 1, 0, 0, 0, 0), (47, .iastore, 1, 0, 0, 0, 0), (48, .iinc 3 (-1), 3, 0, 0, 0, 0), (51, .goto (-44), 3, 7, 0, 0, 0), (54, .aload_n 0, 1, 0, 0, 0, 0), (55, .getfield 41, 3, 2, 12, 0, 152), (58, .iload_n 1, 1, 0, 0, 0, 0), (59, .aaload, 1, 0, 0, 0, 0), (60, .iload_n 3, 1, 0, 0, 0, 0), (61, .iload_n 2, 1, 0, 0, 0, 0), (62, .iastore, 1, 0, 0, 0, 0), (63, .aload_n 0, 1, 0, 0, 0, 0), (64, .getfield 38, 3, 2, 11, 0, 147), (67, .iload_n 1, 1, 0, 0, 0, 0), (68, .dup2, 1, 0, 0, 0, 0), (69, .iaload, 1, 0, 0, 0, 0), (70, .iconst 1, 1, 0, 0, 0, 0), (71, .iadd, 1, 0, 0, 0, 0), (72, .iastore, 1, 0, 0, 0, 0), (73, .return_, 1, 0, 0, 0, 0)]
def mm_m40 : mm_M := (⟨"LineMap$Net", "addToRing", "(II)V"⟩, prog_4_method_11_code, 4, none, 2, mm_k40, 493, 492, 5, 80, 0)
theorem mm_c40 : mm_mchk mm_m40 = true := by decide +kernel
/-- LineMap$Net.comesBefore(III)Z -/
def mm_k41 : List mm_E := [(0, .aload_n 0, 1, 0, 0, 0, 0), (1, .getfield 9, 3, 2, 3, 0, 123), (4, .iload_n 2, 1, 0, 0, 0, 0), (5, .iaload, 1, 0, 0, 0, 0), (6, .aload_n 0, 1, 0, 0, 0, 0), (7, .getfield 9, 3, 2, 3, 0, 123), (10, .iload_n 1, 1, 0, 0, 0, 0), (11, .iaload, 1, 0, 0, 0, 0), (12, .isub, 1, 0, 0, 0, 0), (13, .istore 4, 2, 0, 0, 0, 0), (15, .aload_n 0, 1, 0, 0, 0, 0), (16, .getfield 15, 3, 2, 4, 0, 124), (19, .iload_n 2, 1, 0, 0, 0, 0), (20, .iaload, 1, 0, 0, 0, 0), (21, .aload_n 0, 1, 0, 0, 0, 0), (22, .getfield 15, 3, 2, 4, 0, 124), (25, .iload_n 1, 1, 0, 0, 0, 0), (26, .iaload, 1, 0, 0, 0, 0), (27, .isub, 1, 0, 0, 0, 0), (28, .istore 5, 2, 0, 0, 0, 0), (30, .aload_n 0, 1, 0, 0, 0, 0), (31, .getfield 9, 3, 2, 3, 0, 123), (34, .iload_n 3, 1, 0, 0, 0, 0), (35, .iaload, 1, 0, 0, 0, 0), (36, .aload_n 0, 1, 0, 0, 0, 0), (37, .getfield 9, 3, 2, 3, 0, 123), (40, .iload_n 1, 1, 0, 0, 0, 0), (41, .iaload, 1, 0, 0, 0, 0), (42, .isub, 1, 0, 0, 0, 0), (43, .istore 6, 2, 0, 0, 0, 0), (45, .aload_n 0, 1, 0, 0, 0, 0), (46, .getfield 15, 3, 2, 4, 0, 124), (49, .iload_n 3, 1, 0, 0, 0, 0), (50, .iaload, 1, 0, 0, 0, 0), (51, .aload_n 0, 1, 0, 0, 0, 0), (52, .getfield 15, 3, 2, 4, 0, 124), (55, .iload_n 1, 1, 0, 0, 0, 0), (56, .iaload, 1, 0, 0, 0, 0), (57, .isub, 1, 0, 0, 0, 0), (58, .istore 7, 2, 0, 0, 0, 0), (60, .iload 4, 2, 0, 0, 0, 0), (62, .iload 5, 2, 0, 0, 0, 0), (64, .invokestatic 87, 3, 42, 2, 0, 498), (67, .istore 8, 2, 0, 0, 0, 0), (69, .iload 6, 2, 0, 0, 0, 0), (71, .iload 7, 2, 0, 0, 0, 0), (73, .invokestatic 87, 3, 42, 2, 0, 498), (76, .istore 9, 2, 0, 0, 0, 0), (78, .iload 8, 2, 0, 0, 0, 0), (80, .iload 9, 2, 0, 0, 0, 0), (82, .if_icmp .eq 16, 3, 98, 0, 0, 0), (85, .iload 8, 2, 0, 0, 0, 0), (87, .iload 9, 2, 0, 0, 0, 0), (89, .if_icmp .ge 7, 3, 96, 0, 0, 0), (92, .iconst 1, 1, 0, 0, 0, 0), (93, .goto 4, 3, 97, 0, 0, 0), (96, .iconst 0, 1, 0, 0, 0, 0), (97, .ireturn, 1, 0, 0, 0, 0), (98, .iload 4, 2, 0, 0, 0, 0), (100, .iload 7, 2, 0, 0, 0, 0), (102, .imul, 1, 0, 0, 0, 0), (103, .iload 5, 2, 0, 0, 0, 0), (105, .iload 6, 2, 0, 0, 0, 0), (107, .imul, 1, 0, 0, 0, 0), (108, .isub, 1, 0, 0, 0, 0), (109, .istore 10, 2, 0, 0, 0, 0), (111, .iload 10, 2, 0, 0, 0, 0), (113, .ifCond .ne 16, 3, 129, 0, 0, 0), (116, .iload_n 2, 1, 0, 0, 0, 0), (117, .iload_n 3, 1, 0, 0, 0, 0), (118, .if_icmp .ge 7, 3, 125, 0, 0, 0), (121, .iconst 1, 1, 0, 0, 0, 0), (122, .goto 17, 3, 139, 0, 0, 0), (125, .iconst 0, 1, 0, 0, 0, 0), (126, .goto 13, 3, 139, 0, 0, 0), (129, .iload 10, 2, 0, 0, 0, 0), (131, .ifCond .le 7, 3, 138, 0, 0, 0), (134, .iconst 1, 1, 0, 0, 0, 0), (135, .goto 4, 3, 139, 0, 0, 0), (138, .iconst 0, 1, 0, 0, 0, 0), (139, .ireturn, 1, 0, 0, 0, 0)]
def mm_m41 : mm_M := (⟨"LineMap$Net", "comesBefore", "(III)Z"⟩, prog_4_method_12_code, 11, some .boolean, 2, mm_k41, 497, 496, 6, 80, 0)
theorem mm_c41 : mm_mchk mm_m41 = true := by decide +kernel
/-- LineMap$Net.half(II)I -/
def mm_k42 : List mm_E := [(0, .iload_n 1, 1, 0, 0, 0, 0), (1, .ifCond .gt 11, 3, 12, 0, 0, 0), (4, .iload_n 1, 1, 0, 0, 0, 0), (5, .ifCond .ne 11, 3, 16, 0, 0, 0), (8, .iload_n 0, 1, 0, 0, 0, 0), (9, .ifCond .le 7, 3, 16, 0, 0, 0), (12, .iconst 0, 1, 0, 0, 0, 0), (13, .goto 4, 3, 17, 0, 0, 0), (16, .iconst 1, 1, 0, 0, 0, 0), (17, .ireturn, 1, 0, 0, 0, 0)]
def mm_m42 : mm_M := (⟨"LineMap$Net", "half", "(II)I"⟩, prog_4_method_13_code, 2, some .int, 2, mm_k42, 500, 499, 0, 80, 1)
theorem mm_c42 : mm_mchk mm_m42 = true := by decide +kernel
/-- LineMap$Plan.<init>()V -/
def mm_k43 : List mm_E := [(0, .aload_n 0, 1, 0, 0, 0, 0), (1, .invokespecial 3, 3, 0, 0, 2, 194), (4, .aload_n 0, 1, 0, 0, 0, 0), (5, .bipush 10, 2, 0, 0, 0, 0), (7, .newarray .int, 2, 0, 0, 0, 0), (9, .putfield 9, 3, 3, 2, 2, 205), (12, .aload_n 0, 1, 0, 0, 0, 0), (13, .bipush 10, 2, 0, 0, 0, 0), (15, .newarray .int, 2, 0, 0, 0, 0), (17, .putfield 15, 3, 3, 3, 2, 208), (20, .aload_n 0, 1, 0, 0, 0, 0), (21, .bipush 10, 2, 0, 0, 0, 0), (23, .newarray .boolean, 2, 0, 0, 0, 0), (25, .putfield 18, 3, 3, 4, 2, 211), (28, .aload_n 0, 1, 0, 0, 0, 0), (29, .iconst 5, 1, 0, 0, 0, 0), (30, .iconst 5, 1, 0, 0, 0, 0), (31, .invokevirtual 22, 3, 44, 2, 3, 195), (34, .return_, 1, 0, 0, 0, 0)]
def mm_m43 : mm_M := (⟨"LineMap$Plan", "<init>", "()V"⟩, prog_5_method_1_code, 1, none, 3, mm_k43, 193, 192, 0, 82, 2)
theorem mm_c43 : mm_mchk mm_m43 = true := by decide +kernel
/-- LineMap$Plan.begin(II)V -/
def mm_k44 : List mm_E := [(0, .aload_n 0, 1, 0, 0, 0, 0), (1, .iload_n 1, 1, 0, 0, 0, 0), (2, .putfield 26, 3, 3, 0, 0, 199), (5, .aload_n 0, 1, 0, 0, 0, 0), (6, .iload_n 2, 1, 0, 0, 0, 0), (7, .putfield 30, 3, 3, 1, 0, 202), (10, .iconst 0, 1, 0, 0, 0, 0), (11, .istore_n 3, 1, 0, 0, 0, 0), (12, .iload_n 3, 1, 0, 0, 0, 0), (13, .bipush 10, 2, 0, 0, 0, 0), (15, .if_icmp .ge 30, 3, 45, 0, 0, 0), (18, .aload_n 0, 1, 0, 0, 0, 0), (19, .getfield 9, 3, 3, 2, 0, 205), (22, .iload_n 3, 1, 0, 0, 0, 0), (23, .iconst (-1), 1, 0, 0, 0, 0), (24, .iastore, 1, 0, 0, 0, 0), (25, .aload_n 0, 1, 0, 0, 0, 0), (26, .getfield 15, 3, 3, 3, 0, 208), (29, .iload_n 3, 1, 0, 0, 0, 0), (30, .iconst (-1), 1, 0, 0, 0, 0), (31, .iastore, 1, 0, 0, 0, 0), (32, .aload_n 0, 1, 0, 0, 0, 0), (33, .getfield 18, 3, 3, 4, 0, 211), (36, .iload_n 3, 1, 0, 0, 0, 0), (37, .iconst 0, 1, 0, 0, 0, 0), (38, .bastore, 1, 0, 0, 0, 0), (39, .iinc 3 1, 3, 0, 0, 0, 0), (42, .goto (-30), 3, 12, 0, 0, 0), (45, .return_, 1, 0, 0, 0, 0)]
def mm_m44 : mm_M := (⟨"LineMap$Plan", "begin", "(II)V"⟩, prog_5_method_2_code, 4, none, 3, mm_k44, 198, 196, 197, 82, 0)
theorem mm_c44 : mm_mchk mm_m44 = true := by decide +kernel
/-- LineMap$Plan.points()I -/
def mm_k45 : List mm_E := [(0, .aload_n 0, 1, 0, 0, 0, 0), (1, .getfield 26, 3, 3, 0, 0, 199), (4, .aload_n 0, 1, 0, 0, 0, 0), (5, .getfield 30, 3, 3, 1, 0, 202), (8, .imul, 1, 0, 0, 0, 0), (9, .ireturn, 1, 0, 0, 0, 0)]
def mm_m45 : mm_M := (⟨"LineMap$Plan", "points", "()I"⟩, prog_5_method_3_code, 1, some .int, 3, mm_k45, 685, 683, 684, 82, 0)
theorem mm_c45 : mm_mchk mm_m45 = true := by decide +kernel
/-- LineMap$Plan.isPlaced(I)Z -/
def mm_k46 : List mm_E := [(0, .aload_n 0, 1, 0, 0, 0, 0), (1, .getfield 9, 3, 3, 2, 0, 205), (4, .iload_n 1, 1, 0, 0, 0, 0), (5, .iaload, 1, 0, 0, 0, 0), (6, .iconst (-1), 1, 0, 0, 0, 0), (7, .if_icmp .eq 7, 3, 14, 0, 0, 0), (10, .iconst 1, 1, 0, 0, 0, 0), (11, .goto 4, 3, 15, 0, 0, 0), (14, .iconst 0, 1, 0, 0, 0, 0), (15, .ireturn, 1, 0, 0, 0, 0)]
def mm_m46 : mm_M := (⟨"LineMap$Plan", "isPlaced", "(I)Z"⟩, prog_5_method_4_code, 2, some .boolean, 3, mm_k46, 548, 546, 547, 82, 0)
theorem mm_c46 : mm_mchk mm_m46 = true := by decide +kernel
/-- LineMap$Plan.where(I)I -/
def mm_k47 : List mm_E := [(0, .aload_n 0, 1, 0, 0, 0, 0), (1, .iload_n 1, 1, 0, 0, 0, 0), (2, .invokevirtual 33, 3, 46, 1, 3, 545), (5, .ifCond .eq 24, 3, 29, 0, 0, 0), (8, .aload_n 0, 1, 0, 0, 0, 0), (9, .getfield 15, 3, 3, 3, 0, 208), (12, .iload_n 1, 1, 0, 0, 0, 0), (13, .iaload, 1, 0, 0, 0, 0), (14, .aload_n 0, 1, 0, 0, 0, 0), (15, .getfield 26, 3, 3, 0, 0, 199), (18, .imul, 1, 0, 0, 0, 0), (19, .aload_n 0, 1, 0, 0, 0, 0), (20, .getfield 9, 3, 3, 2, 0, 205), (23, .iload_n 1, 1, 0, 0, 0, 0), (24, .iaload, 1, 0, 0, 0, 0), (25, .iadd, 1, 0, 0, 0, 0), (26, .goto 4, 3, 30, 0, 0, 0), (29, .iconst (-1), 1, 0, 0, 0, 0), (30, .ireturn, 1, 0, 0, 0, 0)]
def mm_m47 : mm_M := (⟨"LineMap$Plan", "where", "(I)I"⟩, prog_5_method_5_code, 2, some .int, 3, mm_k47, 544, 542, 543, 82, 0)
theorem mm_c47 : mm_mchk mm_m47 = true := by decide +kernel
/-- LineMap$Plan.move(II)V -/
def mm_k48 : List mm_E := [(0, .iload_n 2, 1, 0, 0, 0, 0), (1, .ifCond .lt 11, 3, 12, 0, 0, 0), (4, .aload_n 0, 1, 0, 0, 0, 0), (5, .getfield 26, 3, 3, 0, 0, 199), (8, .iconst 1, 1, 0, 0, 0, 0), (9, .if_icmp .ge 18, 3, 27, 0, 0, 0), (12, .aload_n 0, 1, 0, 0, 0, 0), (13, .getfield 9, 3, 3, 2, 0, 205), (16, .iload_n 1, 1, 0, 0, 0, 0), (17, .iconst (-1), 1, 0, 0, 0, 0), (18, .iastore, 1, 0, 0, 0, 0), (19, .aload_n 0, 1, 0, 0, 0, 0), (20, .getfield 15, 3, 3, 3, 0, 208), (23, .iload_n 1, 1, 0, 0, 0, 0), (24, .iconst (-1), 1, 0, 0, 0, 0), (25, .iastore, 1, 0, 0, 0, 0), (26, .return_, 1, 0, 0, 0, 0), (27, .aload_n 0, 1, 0, 0, 0, 0), (28, .getfield 9, 3, 3, 2, 0, 205), (31, .iload_n 1, 1, 0, 0, 0, 0), (32, .iload_n 2, 1, 0, 0, 0, 0), (33, .aload_n 0, 1, 0, 0, 0, 0), (34, .getfield 26, 3, 3, 0, 0, 199), (37, .irem, 1, 0, 0, 0, 0), (38, .iastore, 1, 0, 0, 0, 0), (39, .aload_n 0, 1, 0, 0, 0, 0), (40, .getfield 15, 3, 3, 3, 0, 208), (43, .iload_n 1, 1, 0, 0, 0, 0), (44, .iload_n 2, 1, 0, 0, 0, 0), (45, .aload_n 0, 1, 0, 0, 0, 0), (46, .getfield 26, 3, 3, 0, 0, 199), (49, .idiv, 1, 0, 0, 0, 0), (50, .iastore, 1, 0, 0, 0, 0), (51, .return_, 1, 0, 0, 0, 0)]
def mm_m48 : mm_M := (⟨"LineMap$Plan", "move", "(II)V"⟩, prog_5_method_6_code, 3, none, 3, mm_k48, 536, 534, 535, 82, 0)
theorem mm_c48 : mm_mchk mm_m48 = true := by decide +kernel
/-- LineMap$Plan.copy(LLineMap$Plan;)V -/
def mm_k49 : List mm_E := [(0, .aload_n 0, 1, 0, 0, 0, 0), (1, .aload_n 1, 1, 0, 0, 0, 0), (2, .getfield 26, 3, 3, 0, 0, 199), (5, .putfield 26, 3, 3, 0, 0, 199), (8, .aload_n 0, 1, 0, 0, 0, 0), (9, .aload_n 1, 1, 0, 0, 0, 0), (10, .getfield 30, 3, 3, 1, 0, 202), (13, .putfield 30, 3, 3, 1, 0, 202), (16, .iconst 0, 1, 0, 0, 0, 0), (17, .istore_n 2, 1, 0, 0, 0, 0), (18, .iload_n 2, 1, 0, 0, 0, 0), (19, .bipush 10, 2, 0, 0, 0, 0), (21, .if_icmp .ge 45, 3, 66, 0, 0, 0), (24, .aload_n 0, 1, 0, 0, 0, 0), (25, .getfield 9, 3, 3, 2, 0, 205), (28, .iload_n 2, 1, 0, 0, 0, 0), (29, .aload_n 1, 1, 0, 0, 0, 0), (30, .getfield 9, 3, 3, 2, 0, 205), (33, .iload_n 2, 1, 0, 0, 0, 0), (34, .iaload, 1, 0, 0, 0, 0), (35, .iastore, 1, 0, 0, 0, 0), (36, .aload_n 0, 1, 0, 0, 0, 0), (37, .getfield 15, 3, 3, 3, 0, 208), (40, .iload_n 2, 1, 0, 0, 0, 0), (41, .aload_n 1, 1, 0, 0, 0, 0), (42, .getfield 15, 3, 3, 3, 0, 208), (45, .iload_n 2, 1, 0, 0, 0, 0), (46, .iaload, 1, 0, 0, 0, 0), (47, .iastore, 1, 0, 0, 0, 0), (48, .aload_n 0, 1, 0, 0, 0, 0), (49, .getfield 18, 3, 3, 4, 0, 211), (52, .iload_n 2, 1, 0, 0, 0, 0), (53, .aload_n 1, 1, 0, 0, 0, 0), (54, .getfield 18, 3, 3, 4, 0, 211), (57, .iload_n 2, 1, 0, 0, 0, 0), (58, .baload, 1, 0, 0, 0, 0), (59, .bastore, 1, 0, 0, 0, 0), (60, .iinc 2 1, 3, 0, 0, 0, 0), (63, .goto (-45), 3, 18, 0, 0, 0), (66, .return_, 1, 0, 0, 0, 0)]
def mm_m49 : mm_M := (⟨"LineMap$Plan", "copy", "(LLineMap$Plan;)V"⟩, prog_5_method_7_code, 3, none, 3, mm_k49, 858, 856, 857, 82, 0)
theorem mm_c49 : mm_mchk mm_m49 = true := by decide +kernel
/-- LineMap$Plan.countPlaced()I -/
def mm_k50 : List mm_E := [(0, .iconst 0, 1, 0, 0, 0, 0), (1, .istore_n 1, 1, 0, 0, 0, 0), (2, .iconst 0, 1, 0, 0, 0, 0), (3, .istore_n 2, 1, 0, 0, 0, 0), (4, .iload_n 2, 1, 0, 0, 0, 0), (5, .bipush 10, 2, 0, 0, 0, 0), (7, .if_icmp .ge 25, 3, 32, 0, 0, 0), (10, .iload_n 1, 1, 0, 0, 0, 0), (11, .aload_n 0, 1, 0, 0, 0, 0), (12, .iload_n 2, 1, 0, 0, 0, 0), (13, .invokevirtual 33, 3, 46, 1, 3, 545), (16, .ifCond .eq 7, 3, 23, 0, 0, 0), (19, .iconst 1, 1, 0, 0, 0, 0), (20, .goto 4, 3, 24, 0, 0, 0), (23, .iconst 0, 1, 0, 0, 0, 0), (24, .iadd, 1, 0, 0, 0, 0), (25, .istore_n 1, 1, 0, 0, 0, 0), (26, .iinc 2 1, 3, 0, 0, 0, 0), (29, .goto (-25), 3, 4, 0, 0, 0), (32, .iload_n 1, 1, 0, 0, 0, 0), (33, .ireturn, 1, 0, 0, 0, 0)]
def mm_m50 : mm_M := (⟨"LineMap$Plan", "countPlaced", "()I"⟩, prog_5_method_8_code, 3, some .int, 3, mm_k50, 870, 868, 869, 82, 0)
theorem mm_c50 : mm_mchk mm_m50 = true := by decide +kernel
/-- LineMap$Plan.countHeld()I -/
def mm_k51 : List mm_E := [(0, .iconst 0, 1, 0, 0, 0, 0), (1, .istore_n 1, 1, 0, 0, 0, 0), (2, .iconst 0, 1, 0, 0, 0, 0), (3, .istore_n 2, 1, 0, 0, 0, 0), (4, .iload_n 2, 1, 0, 0, 0, 0), (5, .bipush 10, 2, 0, 0, 0, 0), (7, .if_icmp .ge 26, 3, 33, 0, 0, 0), (10, .iload_n 1, 1, 0, 0, 0, 0), (11, .aload_n 0, 1, 0, 0, 0, 0), (12, .getfield 18, 3, 3, 4, 0, 211), (15, .iload_n 2, 1, 0, 0, 0, 0), (16, .baload, 1, 0, 0, 0, 0), (17, .ifCond .eq 7, 3, 24, 0, 0, 0), (20, .iconst 1, 1, 0, 0, 0, 0), (21, .goto 4, 3, 25, 0, 0, 0), (24, .iconst 0, 1, 0, 0, 0, 0), (25, .iadd, 1, 0, 0, 0, 0), (26, .istore_n 1, 1, 0, 0, 0, 0), (27, .iinc 2 1, 3, 0, 0, 0, 0), (30, .goto (-26), 3, 4, 0, 0, 0), (33, .iload_n 1, 1, 0, 0, 0, 0), (34, .ireturn, 1, 0, 0, 0, 0)]
def mm_m51 : mm_M := (⟨"LineMap$Plan", "countHeld", "()I"⟩, prog_5_method_9_code, 3, some .int, 3, mm_k51, 703, 701, 702, 82, 0)
theorem mm_c51 : mm_mchk mm_m51 = true := by decide +kernel
/-- LineMap$Plan.directionTo(II)I -/
def mm_k52 : List mm_E := [(0, .aload_n 0, 1, 0, 0, 0, 0), (1, .getfield 9, 3, 3, 2, 0, 205), (4, .iload_n 2, 1, 0, 0, 0, 0), (5, .iaload, 1, 0, 0, 0, 0), (6, .aload_n 0, 1, 0, 0, 0, 0), (7, .getfield 9, 3, 3, 2, 0, 205), (10, .iload_n 1, 1, 0, 0, 0, 0), (11, .iaload, 1, 0, 0, 0, 0), (12, .isub, 1, 0, 0, 0, 0), (13, .istore_n 3, 1, 0, 0, 0, 0), (14, .aload_n 0, 1, 0, 0, 0, 0), (15, .getfield 15, 3, 3, 3, 0, 208), (18, .iload_n 2, 1, 0, 0, 0, 0), (19, .iaload, 1, 0, 0, 0, 0), (20, .aload_n 0, 1, 0, 0, 0, 0), (21, .getfield 15, 3, 3, 3, 0, 208), (24, .iload_n 1, 1, 0, 0, 0, 0), (25, .iaload, 1, 0, 0, 0, 0), (26, .isub, 1, 0, 0, 0, 0), (27, .istore 4, 2, 0, 0, 0, 0), (29, .iload_n 3, 1, 0, 0, 0, 0), (30, .ifCond .ne 24, 3, 54, 0, 0, 0), (33, .iload 4, 2, 0, 0, 0, 0), (35, .ifCond .ne 7, 3, 42, 0, 0, 0), (38, .iconst (-1), 1, 0, 0, 0, 0), (39, .goto 14, 3, 53, 0, 0, 0), (42, .iload 4, 2, 0, 0, 0, 0), (44, .ifCond .le 7, 3, 51, 0, 0, 0), (47, .iconst 2, 1, 0, 0, 0, 0), (48, .goto 5, 3, 53, 0, 0, 0), (51, .bipush 6, 2, 0, 0, 0, 0), (53, .ireturn, 1, 0, 0, 0, 0), (54, .iload 4, 2, 0, 0, 0, 0), (56, .ifCond .ne 13, 3, 69, 0, 0, 0), (59, .iload_n 3, 1, 0, 0, 0, 0), (60, .ifCond .le 7, 3, 67, 0, 0, 0), (63, .iconst 0, 1, 0, 0, 0, 0), (64, .goto 4, 3, 68, 0, 0, 0), (67, .iconst 4, 1, 0, 0, 0, 0), (68, .ireturn, 1, 0, 0, 0, 0), (69, .iload_n 3, 1, 0, 0, 0, 0), (70, .iload 4, 2, 0, 0, 0, 0), (72, .if_icmp .ne 13, 3, 85, 0, 0, 0), (75, .iload_n 3, 1, 0, 0, 0, 0), (76, .ifCond .le 7, 3, 83, 0, 0, 0), (79, .iconst 1, 1, 0, 0, 0, 0), (80, .goto 4, 3, 84, 0, 0, 0), (83, .iconst 5, 1, 0, 0, 0, 0), (84, .ireturn, 1, 0, 0, 0, 0), (85, .iload_n 3, 1, 0, 0, 0, 0), (86, .iload 4, 2, 0, 0, 0, 0), (88, .ineg, 1, 0, 0, 0, 0), (89, .if_icmp .ne 14, 3, 103, 0, 0, 0), (92, .iload_n 3, 1, 0, 0, 0, 0), (93, .ifCond .le 8, 3, 101, 0, 0, 0), (96, .bipush 7, 2, 0, 0, 0, 0), (98, .goto 4, 3, 102, 0, 0, 0), (101, .iconst 3, 1, 0, 0, 0, 0), (102, .ireturn, 1, 0, 0, 0, 0), (103, .iconst (-1), 1, 0, 0, 0, 0), (104, .ireturn, 1, 0, 0, 0, 0)]
def mm_m52 : mm_M := (⟨"LineMap$Plan", "directionTo", "(II)I"⟩, prog_5_method_10_code, 5, some .int, 3, mm_k52, 586, 584, 585, 82, 0)
theorem mm_c52 : mm_mchk mm_m52 = true := by decide +kernel
/-- LineMap$Plan.distance(II)I -/
def mm_k53 : List mm_E := [(0, .aload_n 0, 1, 0, 0, 0, 0), (1, .getfield 9, 3, 3, 2, 0, 205), (4, .iload_n 2, 1, 0, 0, 0, 0), (5, .iaload, 1, 0, 0, 0, 0), (6, .aload_n 0, 1, 0, 0, 0, 0), (7, .getfield 9, 3, 3, 2, 0, 205), (10, .iload_n 1, 1, 0, 0, 0, 0), (11, .iaload, 1, 0, 0, 0, 0), (12, .isub, 1, 0, 0, 0, 0), (13, .invokestatic 37, 3, 0, 0, 10, 595), (16, .aload_n 0, 1, 0, 0, 0, 0), (17, .getfield 15, 3, 3, 3, 0, 208), (20, .iload_n 2, 1, 0, 0, 0, 0), (21, .iaload, 1, 0, 0, 0, 0), (22, .aload_n 0, 1, 0, 0, 0, 0), (23, .getfield 15, 3, 3, 3, 0, 208), (26, .iload_n 1, 1, 0, 0, 0, 0), (27, .iaload, 1, 0, 0, 0, 0), (28, .isub, 1, 0, 0, 0, 0), (29, .invokestatic 37, 3, 0, 0, 10, 595), (32, .invokestatic 43, 3, 0, 0, 11, 596), (35, .ireturn, 1, 0, 0, 0, 0)]
def mm_m53 : mm_M := (⟨"LineMap$Plan", "distance", "(II)I"⟩, prog_5_method_11_code, 3, some .int, 3, mm_k53, 594, 592, 593, 82, 0)
theorem mm_c53 : mm_mchk mm_m53 = true := by decide +kernel
end
section
/-- LineMap$Plan.isSamePoint(II)Z -/
def mm_k54 : List mm_E := [(0, .aload_n 0, 1, 0, 0, 0, 0), (1, .getfield 9, 3, 3, 2, 0, 205), (4, .iload_n 1, 1, 0, 0, 0, 0), (5, .iaload, 1, 0, 0, 0, 0), (6, .aload_n 0, 1, 0, 0, 0, 0), (7, .getfield 9, 3, 3, 2, 0, 205), (10, .iload_n 2, 1, 0, 0, 0, 0), (11, .iaload, 1, 0, 0, 0, 0), (12, .if_icmp .ne 22, 3, 34, 0, 0, 0), (15, .aload_n 0, 1, 0, 0, 0, 0), (16, .getfield 15, 3, 3, 3, 0, 208), (19, .iload_n 1, 1, 0, 0, 0, 0), (20, .iaload, 1, 0, 0, 0, 0), (21, .aload_n 0, 1, 0, 0, 0, 0), (22, .getfield 15, 3, 3, 3, 0, 208), (25, .iload_n 2, 1, 0, 0, 0, 0), (26, .iaload, 1, 0, 0, 0, 0), (27, .if_icmp .ne 7, 3, 34, 0, 0, 0), (30, .iconst 1, 1, 0, 0, 0, 0), (31, .goto 4, 3, 35, 0, 0, 0), (34, .iconst 0, 1, 0, 0, 0, 0), (35, .ireturn, 1, 0, 0, 0, 0)]
def mm_m54 : mm_M := (⟨"LineMap$Plan", "isSamePoint", "(II)Z"⟩, prog_5_method_12_code, 3, some .boolean, 3, mm_k54, 578, 576, 577, 82, 0)
theorem mm_c54 : mm_mchk mm_m54 = true := by decide +kernel
/-- LineMap$Plan.side(III)I -/
def mm_k55 : List mm_E := [(0, .aload_n 0, 1, 0, 0, 0, 0), (1, .getfield 9, 3, 3, 2, 0, 205), (4, .iload_n 2, 1, 0, 0, 0, 0), (5, .iaload, 1, 0, 0, 0, 0), (6, .aload_n 0, 1, 0, 0, 0, 0), (7, .getfield 9, 3, 3, 2, 0, 205), (10, .iload_n 1, 1, 0, 0, 0, 0), (11, .iaload, 1, 0, 0, 0, 0), (12, .isub, 1, 0, 0, 0, 0), (13, .aload_n 0, 1, 0, 0, 0, 0), (14, .getfield 15, 3, 3, 3, 0, 208), (17, .iload_n 3, 1, 0, 0, 0, 0), (18, .iaload, 1, 0, 0, 0, 0), (19, .aload_n 0, 1, 0, 0, 0, 0), (20, .getfield 15, 3, 3, 3, 0, 208), (23, .iload_n 1, 1, 0, 0, 0, 0), (24, .iaload, 1, 0, 0, 0, 0), (25, .isub, 1, 0, 0, 0, 0), (26, .imul, 1, 0, 0, 0, 0), (27, .aload_n 0, 1, 0, 0, 0, 0), (28, .getfield 15, 3, 3, 3, 0, 208), (31, .iload_n 2, 1, 0, 0, 0, 0), (32, .iaload, 1, 0, 0, 0, 0), (33, .aload_n 0, 1, 0, 0, 0, 0), (34, .getfield 15, 3, 3, 3, 0, 208), (37, .iload_n 1, 1, 0, 0, 0, 0), (38, .iaload, 1, 0, 0, 0, 0), (39, .isub, 1, 0, 0, 0, 0), (40, .aload_n 0, 1, 0, 0, 0, 0), (41, .getfield 9, 3, 3, 2, 0, 205), (44, .iload_n 3, 1, 0, 0, 0, 0), (45, .iaload, 1, 0, 0, 0, 0), (46, .aload_n 0, 1, 0, 0, 0, 0), (47, .getfield 9, 3, 3, 2, 0, 205), (50, .iload_n 1, 1, 0, 0, 0, 0), (51, .iaload, 1, 0, 0, 0, 0), (52, .isub, 1, 0, 0, 0, 0), (53, .imul, 1, 0, 0, 0, 0), (54, .isub, 1, 0, 0, 0, 0), (55, .ireturn, 1, 0, 0, 0, 0)]
def mm_m55 : mm_M := (⟨"LineMap$Plan", "side", "(III)I"⟩, prog_5_method_13_code, 4, some .int, 3, mm_k55, 614, 613, 14, 82, 0)
theorem mm_c55 : mm_mchk mm_m55 = true := by decide +kernel
/-- LineMap$Plan.liesBetween(III)Z -/
def mm_k56 : List mm_E := [(0, .aload_n 0, 1, 0, 0, 0, 0), (1, .iload_n 2, 1, 0, 0, 0, 0), (2, .iload_n 3, 1, 0, 0, 0, 0), (3, .iload_n 1, 1, 0, 0, 0, 0), (4, .invokevirtual 47, 3, 55, 3, 3, 611), (7, .ifCond .eq 5, 3, 12, 0, 0, 0), (10, .iconst 0, 1, 0, 0, 0, 0), (11, .ireturn, 1, 0, 0, 0, 0), (12, .aload_n 0, 1, 0, 0, 0, 0), (13, .getfield 9, 3, 3, 2, 0, 205), (16, .iload_n 1, 1, 0, 0, 0, 0), (17, .iaload, 1, 0, 0, 0, 0), (18, .aload_n 0, 1, 0, 0, 0, 0), (19, .getfield 9, 3, 3, 2, 0, 205), (22, .iload_n 2, 1, 0, 0, 0, 0), (23, .iaload, 1, 0, 0, 0, 0), (24, .aload_n 0, 1, 0, 0, 0, 0), (25, .getfield 9, 3, 3, 2, 0, 205), (28, .iload_n 3, 1, 0, 0, 0, 0), (29, .iaload, 1, 0, 0, 0, 0), (30, .invokestatic 51, 3, 57, 3, 0, 615), (33, .ifCond .eq 31, 3, 64, 0, 0, 0), (36, .aload_n 0, 1, 0, 0, 0, 0), (37, .getfield 15, 3, 3, 3, 0, 208), (40, .iload_n 1, 1, 0, 0, 0, 0), (41, .iaload, 1, 0, 0, 0, 0), (42, .aload_n 0, 1, 0, 0, 0, 0), (43, .getfield 15, 3, 3, 3, 0, 208), (46, .iload_n 2, 1, 0, 0, 0, 0), (47, .iaload, 1, 0, 0, 0, 0), (48, .aload_n 0, 1, 0, 0, 0, 0), (49, .getfield 15, 3, 3, 3, 0, 208), (52, .iload_n 3, 1, 0, 0, 0, 0), (53, .iaload, 1, 0, 0, 0, 0), (54, .invokestatic 51, 3, 57, 3, 0, 615), (57, .ifCond .eq 7, 3, 64, 0, 0, 0), (60, .iconst 1, 1, 0, 0, 0, 0), (61, .goto 4, 3, 65, 0, 0, 0), (64, .iconst 0, 1, 0, 0, 0, 0), (65, .ireturn, 1, 0, 0, 0, 0)]
def mm_m56 : mm_M := (⟨"LineMap$Plan", "liesBetween", "(III)Z"⟩, prog_5_method_14_code, 4, some .boolean, 3, mm_k56, 610, 608, 609, 82, 0)
theorem mm_c56 : mm_mchk mm_m56 = true := by decide +kernel
/-- LineMap$Plan.isInSpan(III)Z -/
def mm_k57 : List mm_E := [(0, .iload_n 0, 1, 0, 0, 0, 0), (1, .iload_n 1, 1, 0, 0, 0, 0), (2, .iload_n 2, 1, 0, 0, 0, 0), (3, .invokestatic 55, 3, 0, 0, 12, 618), (6, .if_icmp .lt 16, 3, 22, 0, 0, 0), (9, .iload_n 0, 1, 0, 0, 0, 0), (10, .iload_n 1, 1, 0, 0, 0, 0), (11, .iload_n 2, 1, 0, 0, 0, 0), (12, .invokestatic 43, 3, 0, 0, 11, 596), (15, .if_icmp .gt 7, 3, 22, 0, 0, 0), (18, .iconst 1, 1, 0, 0, 0, 0), (19, .goto 4, 3, 23, 0, 0, 0), (22, .iconst 0, 1, 0, 0, 0, 0), (23, .ireturn, 1, 0, 0, 0, 0)]
def mm_m57 : mm_M := (⟨"LineMap$Plan", "isInSpan", "(III)Z"⟩, prog_5_method_15_code, 3, some .boolean, 3, mm_k57, 617, 616, 0, 82, 1)
theorem mm_c57 : mm_mchk mm_m57 = true := by decide +kernel
/-- LineMap$Plan.isCrossing(IIII)Z -/
def mm_k58 : List mm_E := [(0, .aload_n 0, 1, 0, 0, 0, 0), (1, .iload_n 1, 1, 0, 0, 0, 0), (2, .iload_n 2, 1, 0, 0, 0, 0), (3, .iload_n 3, 1, 0, 0, 0, 0), (4, .invokevirtual 47, 3, 55, 3, 3, 611), (7, .aload_n 0, 1, 0, 0, 0, 0), (8, .iload_n 1, 1, 0, 0, 0, 0), (9, .iload_n 2, 1, 0, 0, 0, 0), (10, .iload 4, 2, 0, 0, 0, 0), (12, .invokevirtual 47, 3, 55, 3, 3, 611), (15, .imul, 1, 0, 0, 0, 0), (16, .ifCond .ge 27, 3, 43, 0, 0, 0), (19, .aload_n 0, 1, 0, 0, 0, 0), (20, .iload_n 3, 1, 0, 0, 0, 0), (21, .iload 4, 2, 0, 0, 0, 0), (23, .iload_n 1, 1, 0, 0, 0, 0), (24, .invokevirtual 47, 3, 55, 3, 3, 611), (27, .aload_n 0, 1, 0, 0, 0, 0), (28, .iload_n 3, 1, 0, 0, 0, 0), (29, .iload 4, 2, 0, 0, 0, 0), (31, .iload_n 2, 1, 0, 0, 0, 0), (32, .invokevirtual 47, 3, 55, 3, 3, 611), (35, .imul, 1, 0, 0, 0, 0), (36, .ifCond .ge 7, 3, 43, 0, 0, 0), (39, .iconst 1, 1, 0, 0, 0, 0), (40, .goto 4, 3, 44, 0, 0, 0), (43, .iconst 0, 1, 0, 0, 0, 0), (44, .ireturn, 1, 0, 0, 0, 0)]
def mm_m58 : mm_M := (⟨"LineMap$Plan", "isCrossing", "(IIII)Z"⟩, prog_5_method_16_code, 5, some .boolean, 3, mm_k58, 628, 626, 627, 82, 0)
theorem mm_c58 : mm_mchk mm_m58 = true := by decide +kernel
/-- LineMap$Price.<init>(LLineMap$Net;LLineMap$Plan;LLineMap$Terms;)V -/
def mm_k59 : List mm_E := [(0, .aload_n 0, 1, 0, 0, 0, 0), (1, .invokespecial 3, 3, 0, 0, 2, 288), (4, .aload_n 0, 1, 0, 0, 0, 0), (5, .aload_n 1, 1, 0, 0, 0, 0), (6, .putfield 9, 3, 4, 0, 2, 289), (9, .aload_n 0, 1, 0, 0, 0, 0), (10, .aload_n 2, 1, 0, 0, 0, 0), (11, .putfield 15, 3, 4, 1, 2, 290), (14, .aload_n 0, 1, 0, 0, 0, 0), (15, .aload_n 3, 1, 0, 0, 0, 0), (16, .putfield 19, 3, 4, 2, 2, 291), (19, .return_, 1, 0, 0, 0, 0)]
def mm_m59 : mm_M := (⟨"LineMap$Price", "<init>", "(LLineMap$Net;LLineMap$Plan;LLineMap$Terms;)V"⟩, prog_6_method_1_code, 4, none, 4, mm_k59, 287, 286, 0, 85, 2)
theorem mm_c59 : mm_mchk mm_m59 = true := by decide +kernel
/-- LineMap$Price.total()I -/
def mm_k60 : List mm_E := [(0, .aload_n 0, 1, 0, 0, 0, 0), (1, .invokevirtual 23, 3, 61, 0, 4, 675), (4, .aload_n 0, 1, 0, 0, 0, 0), (5, .getfield 19, 3, 4, 2, 0, 291), (8, .getfield 27, 3, 6, 0, 0, 233), (11, .imul, 1, 0, 0, 0, 0), (12, .aload_n 0, 1, 0, 0, 0, 0), (13, .invokevirtual 33, 3, 62, 0, 4, 676), (16, .aload_n 0, 1, 0, 0, 0, 0), (17, .getfield 19, 3, 4, 2, 0, 291), (20, .getfield 36, 3, 6, 1, 0, 236), (23, .imul, 1, 0, 0, 0, 0), (24, .iadd, 1, 0, 0, 0, 0), (25, .aload_n 0, 1, 0, 0, 0, 0), (26, .invokevirtual 39, 3, 63, 0, 4, 677), (29, .aload_n 0, 1, 0, 0, 0, 0), (30, .getfield 19, 3, 4, 2, 0, 291), (33, .getfield 42, 3, 6, 2, 0, 240), (36, .imul, 1, 0, 0, 0, 0), (37, .iadd, 1, 0, 0, 0, 0), (38, .ireturn, 1, 0, 0, 0, 0)]
def mm_m60 : mm_M := (⟨"LineMap$Price", "total", "()I"⟩, prog_6_method_2_code, 1, some .int, 4, mm_k60, 674, 672, 673, 85, 0)
theorem mm_c60 : mm_mchk mm_m60 = true := by decide +kernel
/-- LineMap$Price.bends()I -/
def mm_k61 : List mm_E := [(0, .iconst 0, 1, 0, 0, 0, 0), (1, .istore_n 1, 1, 0, 0, 0, 0), (2, .iconst 0, 1, 0, 0, 0, 0), (3, .istore_n 2, 1, 0, 0, 0, 0), (4, .iload_n 2, 1, 0, 0, 0, 0), (5, .aload_n 0, 1, 0, 0, 0, 0), (6, .getfield 9, 3, 4, 0, 0, 289), (9, .getfield 45, 3, 2, 1, 0, 116), (12, .if_icmp .ge 41, 3, 53, 0, 0, 0), (15, .iconst 1, 1, 0, 0, 0, 0), (16, .istore_n 3, 1, 0, 0, 0, 0), (17, .iload_n 3, 1, 0, 0, 0, 0), (18, .aload_n 0, 1, 0, 0, 0, 0), (19, .getfield 9, 3, 4, 0, 0, 289), (22, .getfield 50, 3, 2, 5, 0, 126), (25, .iload_n 2, 1, 0, 0, 0, 0), (26, .iaload, 1, 0, 0, 0, 0), (27, .iconst 1, 1, 0, 0, 0, 0), (28, .isub, 1, 0, 0, 0, 0), (29, .if_icmp .ge 18, 3, 47, 0, 0, 0), (32, .iload_n 1, 1, 0, 0, 0, 0), (33, .aload_n 0, 1, 0, 0, 0, 0), (34, .iload_n 2, 1, 0, 0, 0, 0), (35, .iload_n 3, 1, 0, 0, 0, 0), (36, .invokevirtual 54, 3, 66, 2, 4, 650), (39, .iadd, 1, 0, 0, 0, 0), (40, .istore_n 1, 1, 0, 0, 0, 0), (41, .iinc 3 1, 3, 0, 0, 0, 0), (44, .goto (-27), 3, 17, 0, 0, 0), (47, .iinc 2 1, 3, 0, 0, 0, 0), (50, .goto (-46), 3, 4, 0, 0, 0), (53, .iload_n 1, 1, 0, 0, 0, 0), (54, .ireturn, 1, 0, 0, 0, 0)]
def mm_m61 : mm_M := (⟨"LineMap$Price", "bends", "()I"⟩, prog_6_method_3_code, 4, some .int, 4, mm_k61, 649, 647, 648, 85, 0)
theorem mm_c61 : mm_mchk mm_m61 = true := by decide +kernel
/-- LineMap$Price.lengths()I -/
def mm_k62 : List mm_E := [(0, .iconst 0, 1, 0, 0, 0, 0), (1, .istore_n 1, 1, 0, 0, 0, 0), (2, .iconst 0, 1, 0, 0, 0, 0), (3, .istore_n 2, 1, 0, 0, 0, 0), (4, .iload_n 2, 1, 0, 0, 0, 0), (5, .aload_n 0, 1, 0, 0, 0, 0), (6, .getfield 9, 3, 4, 0, 0, 289), (9, .getfield 58, 3, 2, 2, 0, 117), (12, .if_icmp .ge 37, 3, 49, 0, 0, 0), (15, .iload_n 1, 1, 0, 0, 0, 0), (16, .aload_n 0, 1, 0, 0, 0, 0), (17, .getfield 15, 3, 4, 1, 0, 290), (20, .aload_n 0, 1, 0, 0, 0, 0), (21, .getfield 9, 3, 4, 0, 0, 289), (24, .getfield 61, 3, 2, 8, 0, 135), (27, .iload_n 2, 1, 0, 0, 0, 0), (28, .iaload, 1, 0, 0, 0, 0), (29, .aload_n 0, 1, 0, 0, 0, 0), (30, .getfield 9, 3, 4, 0, 0, 289), (33, .getfield 64, 3, 2, 9, 0, 140), (36, .iload_n 2, 1, 0, 0, 0, 0), (37, .iaload, 1, 0, 0, 0, 0), (38, .invokevirtual 67, 3, 53, 2, 3, 662), (41, .iadd, 1, 0, 0, 0, 0), (42, .istore_n 1, 1, 0, 0, 0, 0), (43, .iinc 2 1, 3, 0, 0, 0, 0), (46, .goto (-42), 3, 4, 0, 0, 0), (49, .iload_n 1, 1, 0, 0, 0, 0), (50, .ireturn, 1, 0, 0, 0, 0)]
def mm_m62 : mm_M := (⟨"LineMap$Price", "lengths", "()I"⟩, prog_6_method_4_code, 3, some .int, 4, mm_k62, 661, 659, 660, 85, 0)
theorem mm_c62 : mm_mchk mm_m62 = true := by decide +kernel
/-- LineMap$Price.turns()I -/
def mm_k63 : List mm_E := [(0, .iconst 0, 1, 0, 0, 0, 0), (1, .istore_n 1, 1, 0, 0, 0, 0), (2, .iconst 0, 1, 0, 0, 0, 0), (3, .istore_n 2, 1, 0, 0, 0, 0), (4, .iload_n 2, 1, 0, 0, 0, 0), (5, .aload_n 0, 1, 0, 0, 0, 0), (6, .getfield 9, 3, 4, 0, 0, 289), (9, .getfield 58, 3, 2, 2, 0, 117), (12, .if_icmp .ge 17, 3, 29, 0, 0, 0), (15, .iload_n 1, 1, 0, 0, 0, 0), (16, .aload_n 0, 1, 0, 0, 0, 0), (17, .iload_n 2, 1, 0, 0, 0, 0), (18, .invokevirtual 72, 3, 65, 1, 4, 667), (21, .iadd, 1, 0, 0, 0, 0), (22, .istore_n 1, 1, 0, 0, 0, 0), (23, .iinc 2 1, 3, 0, 0, 0, 0), (26, .goto (-22), 3, 4, 0, 0, 0), (29, .iload_n 1, 1, 0, 0, 0, 0), (30, .ireturn, 1, 0, 0, 0, 0)]
def mm_m63 : mm_M := (⟨"LineMap$Price", "turns", "()I"⟩, prog_6_method_5_code, 3, some .int, 4, mm_k63, 666, 664, 665, 85, 0)
theorem mm_c63 : mm_mchk mm_m63 = true := by decide +kernel
/-- LineMap$Price.eighthsBetween(II)I -/
def mm_k64 : List mm_E := [(0, .iload_n 0, 1, 0, 0, 0, 0), (1, .iload_n 1, 1, 0, 0, 0, 0), (2, .isub, 1, 0, 0, 0, 0), (3, .bipush 7, 2, 0, 0, 0, 0), (5, .iand, 1, 0, 0, 0, 0), (6, .istore_n 2, 1, 0, 0, 0, 0), (7, .iload_n 2, 1, 0, 0, 0, 0), (8, .iconst 4, 1, 0, 0, 0, 0), (9, .if_icmp .le 10, 3, 19, 0, 0, 0), (12, .bipush 8, 2, 0, 0, 0, 0), (14, .iload_n 2, 1, 0, 0, 0, 0), (15, .isub, 1, 0, 0, 0, 0), (16, .goto 4, 3, 20, 0, 0, 0), (19, .iload_n 2, 1, 0, 0, 0, 0), (20, .ireturn, 1, 0, 0, 0, 0)]
def mm_m64 : mm_M := (⟨"LineMap$Price", "eighthsBetween", "(II)I"⟩, prog_6_method_6_code, 3, some .int, 4, mm_k64, 657, 656, 0, 85, 1)
theorem mm_c64 : mm_mchk mm_m64 = true := by decide +kernel
/-- LineMap$Price.turnOf(I)I -/
def mm_k65 : List mm_E := [(0, .aload_n 0, 1, 0, 0, 0, 0), (1, .getfield 15, 3, 4, 1, 0, 290), (4, .aload_n 0, 1, 0, 0, 0, 0), (5, .getfield 9, 3, 4, 0, 0, 289), (8, .getfield 61, 3, 2, 8, 0, 135), (11, .iload_n 1, 1, 0, 0, 0, 0), (12, .iaload, 1, 0, 0, 0, 0), (13, .aload_n 0, 1, 0, 0, 0, 0), (14, .getfield 9, 3, 4, 0, 0, 289), (17, .getfield 64, 3, 2, 9, 0, 140), (20, .iload_n 1, 1, 0, 0, 0, 0), (21, .iaload, 1, 0, 0, 0, 0), (22, .invokevirtual 76, 3, 52, 2, 3, 654), (25, .aload_n 0, 1, 0, 0, 0, 0), (26, .getfield 9, 3, 4, 0, 0, 289), (29, .getfield 79, 3, 2, 10, 0, 146), (32, .iload_n 1, 1, 0, 0, 0, 0), (33, .iaload, 1, 0, 0, 0, 0), (34, .invokestatic 82, 3, 64, 2, 0, 655), (37, .ireturn, 1, 0, 0, 0, 0)]
def mm_m65 : mm_M := (⟨"LineMap$Price", "turnOf", "(I)I"⟩, prog_6_method_7_code, 2, some .int, 4, mm_k65, 670, 669, 19, 85, 0)
theorem mm_c65 : mm_mchk mm_m65 = true := by decide +kernel
/-- LineMap$Price.bendAt(II)I -/
def mm_k66 : List mm_E := [(0, .aload_n 0, 1, 0, 0, 0, 0), (1, .getfield 9, 3, 4, 0, 0, 289), (4, .getfield 85, 3, 2, 6, 0, 130), (7, .iload_n 1, 1, 0, 0, 0, 0), (8, .aaload, 1, 0, 0, 0, 0), (9, .astore_n 3, 1, 0, 0, 0, 0), (10, .aload_n 0, 1, 0, 0, 0, 0), (11, .getfield 15, 3, 4, 1, 0, 290), (14, .aload_n 3, 1, 0, 0, 0, 0), (15, .iload_n 2, 1, 0, 0, 0, 0), (16, .iconst 1, 1, 0, 0, 0, 0), (17, .isub, 1, 0, 0, 0, 0), (18, .iaload, 1, 0, 0, 0, 0), (19, .aload_n 3, 1, 0, 0, 0, 0), (20, .iload_n 2, 1, 0, 0, 0, 0), (21, .iaload, 1, 0, 0, 0, 0), (22, .invokevirtual 76, 3, 52, 2, 3, 654), (25, .aload_n 0, 1, 0, 0, 0, 0), (26, .getfield 15, 3, 4, 1, 0, 290), (29, .aload_n 3, 1, 0, 0, 0, 0), (30, .iload_n 2, 1, 0, 0, 0, 0), (31, .iaload, 1, 0, 0, 0, 0), (32, .aload_n 3, 1, 0, 0, 0, 0), (33, .iload_n 2, 1, 0, 0, 0, 0), (34, .iconst 1, 1, 0, 0, 0, 0), (35, .iadd, 1, 0, 0, 0, 0), (36, .iaload, 1, 0, 0, 0, 0), (37, .invokevirtual 76, 3, 52, 2, 3, 654), (40, .invokestatic 82, 3, 64, 2, 0, 655), (43, .ireturn, 1, 0, 0, 0, 0)]
def mm_m66 : mm_M := (⟨"LineMap$Price", "bendAt", "(II)I"⟩, prog_6_method_8_code, 4, some .int, 4, mm_k66, 653, 652, 18, 85, 0)
theorem mm_c66 : mm_mchk mm_m66 = true := by decide +kernel
/-- LineMap$Price.around(I)I -/
def mm_k67 : List mm_E := [(0, .iconst 0, 1, 0, 0, 0, 0), (1, .istore_n 2, 1, 0, 0, 0, 0), (2, .iconst 0, 1, 0, 0, 0, 0), (3, .istore_n 3, 1, 0, 0, 0, 0), (4, .iload_n 3, 1, 0, 0, 0, 0), (5, .aload_n 0, 1, 0, 0, 0, 0), (6, .getfield 9, 3, 4, 0, 0, 289), (9, .getfield 89, 3, 2, 11, 0, 150), (12, .iload_n 1, 1, 0, 0, 0, 0), (13, .iaload, 1, 0, 0, 0, 0), (14, .if_icmp .ge 80, 3, 94, 0, 0, 0), (17, .aload_n 0, 1, 0, 0, 0, 0), (18, .getfield 9, 3, 4, 0, 0, 289), (21, .getfield 92, 3, 2, 12, 0, 155), (24, .iload_n 1, 1, 0, 0, 0, 0), (25, .aaload, 1, 0, 0, 0, 0), (26, .iload_n 3, 1, 0, 0, 0, 0), (27, .iaload, 1, 0, 0, 0, 0), (28, .istore 4, 2, 0, 0, 0, 0), (30, .aload_n 0, 1, 0, 0, 0, 0), (31, .getfield 15, 3, 4, 1, 0, 290), (34, .iload 4, 2, 0, 0, 0, 0), (36, .invokevirtual 95, 3, 46, 1, 3, 745), (39, .ifCond .eq 49, 3, 88, 0, 0, 0), (42, .iload_n 2, 1, 0, 0, 0, 0), (43, .aload_n 0, 1, 0, 0, 0, 0), (44, .getfield 15, 3, 4, 1, 0, 290), (47, .iload_n 1, 1, 0, 0, 0, 0), (48, .iload 4, 2, 0, 0, 0, 0), (50, .invokevirtual 67, 3, 53, 2, 3, 662), (53, .aload_n 0, 1, 0, 0, 0, 0), (54, .getfield 19, 3, 4, 2, 0, 291), (57, .getfield 36, 3, 6, 1, 0, 236), (60, .imul, 1, 0, 0, 0, 0), (61, .aload_n 0, 1, 0, 0, 0, 0), (62, .aload_n 0, 1, 0, 0, 0, 0), (63, .getfield 9, 3, 4, 0, 0, 289), (66, .getfield 99, 3, 2, 13, 0, 158), (69, .iload_n 1, 1, 0, 0, 0, 0), (70, .aaload, 1, 0, 0, 0, 0), (71, .iload 4, 2, 0, 0, 0, 0), (73, .iaload, 1, 0, 0, 0, 0), (74, .invokevirtual 72, 3, 65, 1, 4, 667), (77, .aload_n 0, 1, 0, 0, 0, 0), (78, .getfield 19, 3, 4, 2, 0, 291), (81, .getfield 42, 3, 6, 2, 0, 240), (84, .imul, 1, 0, 0, 0, 0), (85, .iadd, 1, 0, 0, 0, 0), (86, .iadd, 1, 0, 0, 0, 0), (87, .istore_n 2, 1, 0, 0, 0, 0), (88, .iinc 3 1, 3, 0, 0, 0, 0), (91, .goto (-87), 3, 4, 0, 0, 0), (94, .iload_n 2, 1, 0, 0, 0, 0), (95, .aload_n 0, 1, 0, 0, 0, 0), (96, .iload_n 1, 1, 0, 0, 0, 0), (97, .invokevirtual 102, 3, 68, 1, 4, 746), (100, .aload_n 0, 1, 0, 0, 0, 0), (101, .getfield 19, 3, 4, 2, 0, 291), (104, .getfield 27, 3, 6, 0, 0, 233), (107, .imul, 1, 0, 0, 0, 0), (108, .iadd, 1, 0, 0, 0, 0), (109, .ireturn, 1, 0, 0, 0, 0)]
def mm_m67 : mm_M := (⟨"LineMap$Price", "around", "(I)I"⟩, prog_6_method_9_code, 5, some .int, 4, mm_k67, 744, 742, 743, 85, 0)
theorem mm_c67 : mm_mchk mm_m67 = true := by decide +kernel
/-- LineMap$Price.bendsAround(I)I -/
def mm_k68 : List mm_E := [(0, .iconst 0, 1, 0, 0, 0, 0), (1, .istore_n 2, 1, 0, 0, 0, 0), (2, .iconst 0, 1, 0, 0, 0, 0), (3, .istore_n 3, 1, 0, 0, 0, 0), (4, .iload_n 3, 1, 0, 0, 0, 0), (5, .aload_n 0, 1, 0, 0, 0, 0), (6, .getfield 9, 3, 4, 0, 0, 289), (9, .getfield 45, 3, 2, 1, 0, 116), (12, .if_icmp .ge 102, 3, 114, 0, 0, 0), (15, .aload_n 0, 1, 0, 0, 0, 0), (16, .getfield 9, 3, 4, 0, 0, 289), (19, .getfield 105, 3, 2, 7, 0, 133), (22, .iload_n 3, 1, 0, 0, 0, 0), (23, .aaload, 1, 0, 0, 0, 0), (24, .iload_n 1, 1, 0, 0, 0, 0), (25, .iaload, 1, 0, 0, 0, 0), (26, .istore 4, 2, 0, 0, 0, 0), (28, .iload 4, 2, 0, 0, 0, 0), (30, .iconst (-1), 1, 0, 0, 0, 0), (31, .if_icmp .ne 6, 3, 37, 0, 0, 0), (34, .goto 74, 3, 108, 0, 0, 0), (37, .iload 4, 2, 0, 0, 0, 0), (39, .iconst 1, 1, 0, 0, 0, 0), (40, .iadd, 1, 0, 0, 0, 0), (41, .aload_n 0, 1, 0, 0, 0, 0), (42, .getfield 9, 3, 4, 0, 0, 289), (45, .getfield 50, 3, 2, 5, 0, 126), (48, .iload_n 3, 1, 0, 0, 0, 0), (49, .iaload, 1, 0, 0, 0, 0), (50, .iconst 2, 1, 0, 0, 0, 0), (51, .isub, 1, 0, 0, 0, 0), (52, .invokestatic 108, 3, 0, 0, 12, 750), (55, .istore 5, 2, 0, 0, 0, 0), (57, .iload 4, 2, 0, 0, 0, 0), (59, .iconst 1, 1, 0, 0, 0, 0), (60, .isub, 1, 0, 0, 0, 0), (61, .iconst 1, 1, 0, 0, 0, 0), (62, .invokestatic 113, 3, 0, 0, 11, 751), (65, .istore 6, 2, 0, 0, 0, 0), (67, .iload 6, 2, 0, 0, 0, 0), (69, .iload 5, 2, 0, 0, 0, 0), (71, .if_icmp .gt 37, 3, 108, 0, 0, 0), (74, .aload_n 0, 1, 0, 0, 0, 0), (75, .aload_n 0, 1, 0, 0, 0, 0), (76, .getfield 9, 3, 4, 0, 0, 289), (79, .getfield 85, 3, 2, 6, 0, 130), (82, .iload_n 3, 1, 0, 0, 0, 0), (83, .aaload, 1, 0, 0, 0, 0), (84, .iload 6, 2, 0, 0, 0, 0), (86, .invokevirtual 116, 3, 69, 2, 4, 752), (89, .ifCond .eq 13, 3, 102, 0, 0, 0), (92, .iload_n 2, 1, 0, 0, 0, 0), (93, .aload_n 0, 1, 0, 0, 0, 0), (94, .iload_n 3, 1, 0, 0, 0, 0), (95, .iload 6, 2, 0, 0, 0, 0), (97, .invokevirtual 54, 3, 66, 2, 4, 650), (100, .iadd, 1, 0, 0, 0, 0), (101, .istore_n 2, 1, 0, 0, 0, 0), (102, .iinc 6 1, 3, 0, 0, 0, 0), (105, .goto (-38), 3, 67, 0, 0, 0), (108, .iinc 3 1, 3, 0, 0, 0, 0), (111, .goto (-107), 3, 4, 0, 0, 0), (114, .iload_n 2, 1, 0, 0, 0, 0), (115, .ireturn, 1, 0, 0, 0, 0)]
def mm_m68 : mm_M := (⟨"LineMap$Price", "bendsAround", "(I)I"⟩, prog_6_method_10_code, 7, some .int, 4, mm_k68, 749, 748, 29, 85, 0)
theorem mm_c68 : mm_mchk mm_m68 = true := by decide +kernel
/-- LineMap$Price.isBendPlaced([II)Z -/
def mm_k69 : List mm_E := [(0, .aload_n 0, 1, 0, 0, 0, 0), (1, .getfield 15, 3, 4, 1, 0, 290), (4, .aload_n 1, 1, 0, 0, 0, 0), (5, .iload_n 2, 1, 0, 0, 0, 0), (6, .iconst 1, 1, 0, 0, 0, 0), (7, .isub, 1, 0, 0, 0, 0), (8, .iaload, 1, 0, 0, 0, 0), (9, .invokevirtual 95, 3, 46, 1, 3, 745), (12, .ifCond .eq 35, 3, 47, 0, 0, 0), (15, .aload_n 0, 1, 0, 0, 0, 0), (16, .getfield 15, 3, 4, 1, 0, 290), (19, .aload_n 1, 1, 0, 0, 0, 0), (20, .iload_n 2, 1, 0, 0, 0, 0), (21, .iaload, 1, 0, 0, 0, 0), (22, .invokevirtual 95, 3, 46, 1, 3, 745), (25, .ifCond .eq 22, 3, 47, 0, 0, 0), (28, .aload_n 0, 1, 0, 0, 0, 0), (29, .getfield 15, 3, 4, 1, 0, 290), (32, .aload_n 1, 1, 0, 0, 0, 0), (33, .iload_n 2, 1, 0, 0, 0, 0), (34, .iconst 1, 1, 0, 0, 0, 0), (35, .iadd, 1, 0, 0, 0, 0), (36, .iaload, 1, 0, 0, 0, 0), (37, .invokevirtual 95, 3, 46, 1, 3, 745), (40, .ifCond .eq 7, 3, 47, 0, 0, 0), (43, .iconst 1, 1, 0, 0, 0, 0), (44, .goto 4, 3, 48, 0, 0, 0), (47, .iconst 0, 1, 0, 0, 0, 0), (48, .ireturn, 1, 0, 0, 0, 0)]
def mm_m69 : mm_M := (⟨"LineMap$Price", "isBendPlaced", "([II)Z"⟩, prog_6_method_11_code, 3, some .boolean, 4, mm_k69, 755, 754, 30, 85, 0)
theorem mm_c69 : mm_mchk mm_m69 = true := by decide +kernel
/-- LineMap$Search.<init>(LLineMap$Net;LLineMap$Terms;)V -/
def mm_k70 : List mm_E := [(0, .aload_n 0, 1, 0, 0, 0, 0), (1, .invokespecial 3, 3, 0, 0, 2, 304), (4, .aload_n 0, 1, 0, 0, 0, 0), (5, .new 9, 3, 3, 0, 0, 305), (8, .dup, 1, 0, 0, 0, 0), (9, .invokespecial 11, 3, 43, 0, 0, 306), (12, .putfield 12, 3, 5, 2, 2, 314), (15, .aload_n 0, 1, 0, 0, 0, 0), (16, .bipush 25, 2, 0, 0, 0, 0), (18, .newarray .int, 2, 0, 0, 0, 0), (20, .putfield 18, 3, 5, 5, 2, 317), (23, .aload_n 0, 1, 0, 0, 0, 0), (24, .bipush 25, 2, 0, 0, 0, 0), (26, .bipush 25, 2, 0, 0, 0, 0), (28, .multianewarray 22 2, 4, 0, 0, 0, 307), (32, .putfield 24, 3, 5, 6, 2, 318), (35, .aload_n 0, 1, 0, 0, 0, 0), (36, .bipush 10, 2, 0, 0, 0, 0), (38, .newarray .int, 2, 0, 0, 0, 0), (40, .putfield 27, 3, 5, 7, 2, 319), (43, .aload_n 0, 1, 0, 0, 0, 0), (44, .bipush 10, 2, 0, 0, 0, 0), (46, .newarray .int, 2, 0, 0, 0, 0), (48, .putfield 30, 3, 5, 8, 2, 320), (51, .aload_n 0, 1, 0, 0, 0, 0), (52, .bipush 10, 2, 0, 0, 0, 0), (54, .newarray .int, 2, 0, 0, 0, 0), (56, .putfield 33, 3, 5, 9, 2, 321), (59, .aload_n 0, 1, 0, 0, 0, 0), (60, .bipush 10, 2, 0, 0, 0, 0), (62, .newarray .boolean, 2, 0, 0, 0, 0), (64, .putfield 36, 3, 5, 10, 2, 322), (67, .aload_n 0, 1, 0, 0, 0, 0), (68, .bipush 11, 2, 0, 0, 0, 0), (70, .newarray .int, 2, 0, 0, 0, 0), (72, .putfield 40, 3, 5, 11, 2, 323), (75, .aload_n 0, 1, 0, 0, 0, 0), (76, .aload_n 1, 1, 0, 0, 0, 0), (77, .putfield 43, 3, 5, 0, 2, 312), (80, .aload_n 0, 1, 0, 0, 0, 0), (81, .aload_n 2, 1, 0, 0, 0, 0), (82, .putfield 47, 3, 5, 1, 2, 313), (85, .aload_n 0, 1, 0, 0, 0, 0), (86, .new 51, 3, 0, 0, 0, 308), (89, .dup, 1, 0, 0, 0, 0), (90, .aload_n 1, 1, 0, 0, 0, 0), (91, .aload_n 0, 1, 0, 0, 0, 0), (92, .getfield 12, 3, 5, 2, 0, 314), (95, .aload_n 2, 1, 0, 0, 0, 0), (96, .invokespecial 53, 3, 0, 3, 0, 309), (99, .putfield 56, 3, 5, 3, 2, 315), (102, .aload_n 0, 1, 0, 0, 0, 0), (103, .new 60, 3, 4, 0, 0, 310), (106, .dup, 1, 0, 0, 0, 0), (107, .aload_n 1, 1, 0, 0, 0, 0), (108, .aload_n 0, 1, 0, 0, 0, 0), (109, .getfield 12, 3, 5, 2, 0, 314), (112, .aload_n 2, 1, 0, 0, 0, 0), (113, .invokespecial 62, 3, 59, 3, 0, 311), (116, .putfield 63, 3, 5, 4, 2, 316), (119, .return_, 1, 0, 0, 0, 0)]
def mm_m70 : mm_M := (⟨"LineMap$Search", "<init>", "(LLineMap$Net;LLineMap$Terms;)V"⟩, prog_7_method_1_code, 3, none, 5, mm_k70, 303, 302, 0, 86, 2)
theorem mm_c70 : mm_mchk mm_m70 = true := by decide +kernel
/-- LineMap$Search.findLeast(LLineMap$Plan;)I -/
def mm_k71 : List mm_E := [(0, .aload_n 0, 1, 0, 0, 0, 0), (1, .getfield 12, 3, 5, 2, 0, 314), (4, .aload_n 1, 1, 0, 0, 0, 0), (5, .getfield 67, 3, 3, 0, 0, 200), (8, .aload_n 1, 1, 0, 0, 0, 0), (9, .getfield 71, 3, 3, 1, 0, 203), (12, .invokevirtual 74, 3, 44, 2, 3, 690), (15, .iconst 0, 1, 0, 0, 0, 0), (16, .istore_n 2, 1, 0, 0, 0, 0), (17, .iload_n 2, 1, 0, 0, 0, 0), (18, .aload_n 0, 1, 0, 0, 0, 0), (19, .getfield 12, 3, 5, 2, 0, 314), (22, .getfield 71, 3, 3, 1, 0, 203), (25, .if_icmp .ge 34, 3, 59, 0, 0, 0), (28, .iconst 0, 1, 0, 0, 0, 0), (29, .istore_n 3, 1, 0, 0, 0, 0), (30, .iload_n 3, 1, 0, 0, 0, 0), (31, .aload_n 0, 1, 0, 0, 0, 0), (32, .getfield 12, 3, 5, 2, 0, 314), (35, .getfield 67, 3, 3, 0, 0, 200), (38, .if_icmp .ge 15, 3, 53, 0, 0, 0), (41, .aload_n 0, 1, 0, 0, 0, 0), (42, .iload_n 3, 1, 0, 0, 0, 0), (43, .iload_n 2, 1, 0, 0, 0, 0), (44, .invokevirtual 78, 3, 72, 2, 5, 691), (47, .iinc 3 1, 3, 0, 0, 0, 0), (50, .goto (-20), 3, 30, 0, 0, 0), (53, .iinc 2 1, 3, 0, 0, 0, 0), (56, .goto (-39), 3, 17, 0, 0, 0), (59, .aload_n 0, 1, 0, 0, 0, 0), (60, .aload_n 1, 1, 0, 0, 0, 0), (61, .invokevirtual 81, 3, 51, 0, 3, 700), (64, .ifCond .le 7, 3, 71, 0, 0, 0), (67, .iconst 1, 1, 0, 0, 0, 0), (68, .goto 4, 3, 72, 0, 0, 0), (71, .iconst 0, 1, 0, 0, 0, 0), (72, .putfield 85, 3, 5, 12, 1, 324), (75, .iconst 0, 1, 0, 0, 0, 0), (76, .istore_n 2, 1, 0, 0, 0, 0), (77, .iload_n 2, 1, 0, 0, 0, 0), (78, .aload_n 0, 1, 0, 0, 0, 0), (79, .getfield 43, 3, 5, 0, 0, 312), (82, .getfield 89, 3, 2, 0, 0, 111), (85, .if_icmp .ge 33, 3, 118, 0, 0, 0), (88, .aload_n 0, 1, 0, 0, 0, 0), (89, .getfield 27, 3, 5, 7, 0, 319), (92, .iload_n 2, 1, 0, 0, 0, 0), (93, .aload_n 1, 1, 0, 0, 0, 0), (94, .getfield 94, 3, 3, 4, 0, 212), (97, .iload_n 2, 1, 0, 0, 0, 0), (98, .baload, 1, 0, 0, 0, 0), (99, .ifCond .eq 11, 3, 110, 0, 0, 0), (102, .aload_n 1, 1, 0, 0, 0, 0), (103, .iload_n 2, 1, 0, 0, 0, 0), (104, .invokevirtual 97, 3, 47, 1, 3, 704), (107, .goto 4, 3, 111, 0, 0, 0), (110, .iconst (-1), 1, 0, 0, 0, 0), (111, .iastore, 1, 0, 0, 0, 0), (112, .iinc 2 1, 3, 0, 0, 0, 0), (115, .goto (-38), 3, 77, 0, 0, 0), (118, .aload_n 0, 1, 0, 0, 0, 0), (119, .invokevirtual 101, 3, 74, 0, 5, 705), (122, .aload_n 0, 1, 0, 0, 0, 0), (123, .ldc 106, 2, 2147483647, 0, 0, 721), (125, .putfield 107, 3, 5, 13, 0, 325), (128, .aload_n 0, 1, 0, 0, 0, 0), (129, .aload_n 0, 1, 0, 0, 0, 0), (130, .getfield 40, 3, 5, 11, 0, 323), (133, .iconst 0, 1, 0, 0, 0, 0), (134, .iaload, 1, 0, 0, 0, 0), (135, .putfield 110, 3, 5, 14, 0, 326), (138, .aload_n 0, 1, 0, 0, 0, 0), (139, .iconst 0, 1, 0, 0, 0, 0), (140, .iconst 0, 1, 0, 0, 0, 0), (141, .iconst 0, 1, 0, 0, 0, 0), (142, .invokevirtual 113, 3, 78, 3, 5, 722), (145, .pop, 1, 0, 0, 0, 0), (146, .aload_n 0, 1, 0, 0, 0, 0), (147, .getfield 107, 3, 5, 13, 0, 325), (150, .ldc 106, 2, 2147483647, 0, 0, 721), (152, .if_icmp .ne 5, 3, 157, 0, 0, 0), (155, .iconst (-1), 1, 0, 0, 0, 0), (156, .ireturn, 1, 0, 0, 0, 0), (157, .aload_n 0, 1, 0, 0, 0, 0), (158, .getfield 107, 3, 5, 13, 0, 325), (161, .istore_n 2, 1, 0, 0, 0, 0), (162, .iconst 0, 1, 0, 0, 0, 0), (163, .istore_n 3, 1, 0, 0, 0, 0), (164, .iload_n 3, 1, 0, 0, 0, 0), (165, .aload_n 0, 1, 0, 0, 0, 0), (166, .getfield 43, 3, 5, 0, 0, 312), (169, .getfield 89, 3, 2, 0, 0, 111), (172, .if_icmp .ge 15, 3, 187, 0, 0, 0), (175, .aload_n 0, 1, 0, 0, 0, 0), (176, .iload_n 3, 1, 0, 0, 0, 0), (177, .iload_n 2, 1, 0, 0, 0, 0), (178, .invokevirtual 117, 3, 73, 2, 5, 773), (181, .iinc 3 1, 3, 0, 0, 0, 0), (184, .goto (-20), 3, 164, 0, 0, 0), (187, .iconst 0, 1, 0, 0, 0, 0), (188, .istore_n 3, 1, 0, 0, 0, 0), (189, .iload_n 3, 1, 0, 0, 0, 0), (190, .aload_n 0, 1, 0, 0, 0, 0), (191, .getfield 43, 3, 5, 0, 0, 312), (194, .getfield 89, 3, 2, 0, 0, 111), (197, .if_icmp .ge 20, 3, 217, 0, 0, 0), (200, .aload_n 1, 1, 0, 0, 0, 0), (201, .iload_n 3, 1, 0, 0, 0, 0), (202, .aload_n 0, 1, 0, 0, 0, 0), (203, .getfield 30, 3, 5, 8, 0, 320), (206, .iload_n 3, 1, 0, 0, 0, 0), (207, .iaload, 1, 0, 0, 0, 0), (208, .invokevirtual 120, 3, 48, 2, 3, 740), (211, .iinc 3 1, 3, 0, 0, 0, 0), (214, .goto (-25), 3, 189, 0, 0, 0), (217, .iload_n 2, 1, 0, 0, 0, 0), (218, .ireturn, 1, 0, 0, 0, 0)]
def mm_m71 : mm_M := (⟨"LineMap$Search", "findLeast", "(LLineMap$Plan;)I"⟩, prog_7_method_2_code, 4, some .int, 5, mm_k71, 689, 687, 688, 86, 0)
theorem mm_c71 : mm_mchk mm_m71 = true := by decide +kernel
/-- LineMap$Search.lookRound(II)V -/
def mm_k72 : List mm_E := [(0, .iload_n 2, 1, 0, 0, 0, 0), (1, .aload_n 0, 1, 0, 0, 0, 0), (2, .getfield 12, 3, 5, 2, 0, 314), (5, .getfield 67, 3, 3, 0, 0, 200), (8, .imul, 1, 0, 0, 0, 0), (9, .iload_n 1, 1, 0, 0, 0, 0), (10, .iadd, 1, 0, 0, 0, 0), (11, .istore_n 3, 1, 0, 0, 0, 0), (12, .aload_n 0, 1, 0, 0, 0, 0), (13, .getfield 18, 3, 5, 5, 0, 317), (16, .iload_n 3, 1, 0, 0, 0, 0), (17, .iconst 0, 1, 0, 0, 0, 0), (18, .iastore, 1, 0, 0, 0, 0), (19, .iconst 0, 1, 0, 0, 0, 0), (20, .istore 4, 2, 0, 0, 0, 0), (22, .iload 4, 2, 0, 0, 0, 0), (24, .bipush 8, 2, 0, 0, 0, 0), (26, .if_icmp .ge 157, 3, 183, 0, 0, 0), (29, .iconst 0, 1, 0, 0, 0, 0), (30, .istore 5, 2, 0, 0, 0, 0), (32, .iconst 1, 1, 0, 0, 0, 0), (33, .istore 6, 2, 0, 0, 0, 0), (35, .iload 6, 2, 0, 0, 0, 0), (37, .bipush 8, 2, 0, 0, 0, 0), (39, .if_icmp .ge 138, 3, 177, 0, 0, 0), (42, .iload_n 1, 1, 0, 0, 0, 0), (43, .iload 6, 2, 0, 0, 0, 0), (45, .getstatic 123, 3, 1, 0, 0, 695), (48, .iload 4, 2, 0, 0, 0, 0), (50, .iaload, 1, 0, 0, 0, 0), (51, .imul, 1, 0, 0, 0, 0), (52, .iadd, 1, 0, 0, 0, 0), (53, .istore 7, 2, 0, 0, 0, 0), (55, .iload_n 2, 1, 0, 0, 0, 0), (56, .iload 6, 2, 0, 0, 0, 0), (58, .getstatic 126, 3, 2, 0, 0, 697), (61, .iload 4, 2, 0, 0, 0, 0), (63, .iaload, 1, 0, 0, 0, 0), (64, .imul, 1, 0, 0, 0, 0), (65, .iadd, 1, 0, 0, 0, 0), (66, .istore 8, 2, 0, 0, 0, 0), (68, .iload 7, 2, 0, 0, 0, 0), (70, .iconst 0, 1, 0, 0, 0, 0), (71, .aload_n 0, 1, 0, 0, 0, 0), (72, .getfield 12, 3, 5, 2, 0, 314), (75, .getfield 67, 3, 3, 0, 0, 200), (78, .iconst 1, 1, 0, 0, 0, 0), (79, .isub, 1, 0, 0, 0, 0), (80, .invokestatic 129, 3, 110, 3, 1, 699), (83, .ifCond .eq 94, 3, 177, 0, 0, 0), (86, .iload 8, 2, 0, 0, 0, 0), (88, .iconst 0, 1, 0, 0, 0, 0), (89, .aload_n 0, 1, 0, 0, 0, 0), (90, .getfield 12, 3, 5, 2, 0, 314), (93, .getfield 71, 3, 3, 1, 0, 203), (96, .iconst 1, 1, 0, 0, 0, 0), (97, .isub, 1, 0, 0, 0, 0), (98, .invokestatic 129, 3, 110, 3, 1, 699), (101, .ifCond .ne 6, 3, 107, 0, 0, 0), (104, .goto 73, 3, 177, 0, 0, 0), (107, .iload 8, 2, 0, 0, 0, 0), (109, .aload_n 0, 1, 0, 0, 0, 0), (110, .getfield 12, 3, 5, 2, 0, 314), (113, .getfield 67, 3, 3, 0, 0, 200), (116, .imul, 1, 0, 0, 0, 0), (117, .iload 7, 2, 0, 0, 0, 0), (119, .iadd, 1, 0, 0, 0, 0), (120, .istore 9, 2, 0, 0, 0, 0), (122, .aload_n 0, 1, 0, 0, 0, 0), (123, .getfield 24, 3, 5, 6, 0, 318), (126, .iload_n 3, 1, 0, 0, 0, 0), (127, .aaload, 1, 0, 0, 0, 0), (128, .iload 9, 2, 0, 0, 0, 0), (130, .iload 5, 2, 0, 0, 0, 0), (132, .iastore, 1, 0, 0, 0, 0), (133, .iload 5, 2, 0, 0, 0, 0), (135, .iconst 1, 1, 0, 0, 0, 0), (136, .iload 9, 2, 0, 0, 0, 0), (138, .ishl, 1, 0, 0, 0, 0), (139, .ior, 1, 0, 0, 0, 0), (140, .istore 5, 2, 0, 0, 0, 0), (142, .aload_n 0, 1, 0, 0, 0, 0), (143, .getfield 18, 3, 5, 5, 0, 317), (146, .iload_n 3, 1, 0, 0, 0, 0), (147, .dup2, 1, 0, 0, 0, 0), (148, .iaload, 1, 0, 0, 0, 0), (149, .iload 6, 2, 0, 0, 0, 0), (151, .aload_n 0, 1, 0, 0, 0, 0), (152, .getfield 47, 3, 5, 1, 0, 313), (155, .getfield 132, 3, 6, 3, 0, 243), (158, .if_icmp .ge 7, 3, 165, 0, 0, 0), (161, .iconst 0, 1, 0, 0, 0, 0), (162, .goto 7, 3, 169, 0, 0, 0), (165, .iconst 1, 1, 0, 0, 0, 0), (166, .iload 9, 2, 0, 0, 0, 0), (168, .ishl, 1, 0, 0, 0, 0), (169, .ior, 1, 0, 0, 0, 0), (170, .iastore, 1, 0, 0, 0, 0), (171, .iinc 6 1, 3, 0, 0, 0, 0), (174, .goto (-139), 3, 35, 0, 0, 0), (177, .iinc 4 1, 3, 0, 0, 0, 0), (180, .goto (-158), 3, 22, 0, 0, 0), (183, .return_, 1, 0, 0, 0, 0)]
def mm_m72 : mm_M := (⟨"LineMap$Search", "lookRound", "(II)V"⟩, prog_7_method_3_code, 10, none, 5, mm_k72, 694, 693, 20, 86, 0)
theorem mm_c72 : mm_mchk mm_m72 = true := by decide +kernel
/-- LineMap$Search.settle(II)V -/
def mm_k73 : List mm_E := [(0, .aload_n 0, 1, 0, 0, 0, 0), (1, .getfield 27, 3, 5, 7, 0, 319), (4, .iload_n 1, 1, 0, 0, 0, 0), (5, .iaload, 1, 0, 0, 0, 0), (6, .iconst (-1), 1, 0, 0, 0, 0), (7, .if_icmp .eq 4, 3, 11, 0, 0, 0), (10, .return_, 1, 0, 0, 0, 0), (11, .aload_n 0, 1, 0, 0, 0, 0), (12, .getfield 27, 3, 5, 7, 0, 319), (15, .iload_n 1, 1, 0, 0, 0, 0), (16, .iconst 0, 1, 0, 0, 0, 0), (17, .iastore, 1, 0, 0, 0, 0), (18, .aload_n 0, 1, 0, 0, 0, 0), (19, .invokevirtual 101, 3, 74, 0, 5, 705), (22, .aload_n 0, 1, 0, 0, 0, 0), (23, .iload_n 2, 1, 0, 0, 0, 0), (24, .putfield 110, 3, 5, 14, 0, 326), (27, .iconst 0, 1, 0, 0, 0, 0), (28, .istore_n 3, 1, 0, 0, 0, 0), (29, .iload_n 3, 1, 0, 0, 0, 0), (30, .aload_n 0, 1, 0, 0, 0, 0), (31, .getfield 30, 3, 5, 8, 0, 320), (34, .iload_n 1, 1, 0, 0, 0, 0), (35, .iaload, 1, 0, 0, 0, 0), (36, .if_icmp .ge 34, 3, 70, 0, 0, 0), (39, .aload_n 0, 1, 0, 0, 0, 0), (40, .getfield 27, 3, 5, 7, 0, 319), (43, .iload_n 1, 1, 0, 0, 0, 0), (44, .iload_n 3, 1, 0, 0, 0, 0), (45, .iastore, 1, 0, 0, 0, 0), (46, .aload_n 0, 1, 0, 0, 0, 0), (47, .iload_n 2, 1, 0, 0, 0, 0), (48, .iconst 1, 1, 0, 0, 0, 0), (49, .iadd, 1, 0, 0, 0, 0), (50, .putfield 107, 3, 5, 13, 0, 325), (53, .aload_n 0, 1, 0, 0, 0, 0), (54, .iconst 0, 1, 0, 0, 0, 0), (55, .iconst 0, 1, 0, 0, 0, 0), (56, .iconst 0, 1, 0, 0, 0, 0), (57, .invokevirtual 113, 3, 78, 3, 5, 722), (60, .ifCond .eq 4, 3, 64, 0, 0, 0), (63, .return_, 1, 0, 0, 0, 0), (64, .iinc 3 1, 3, 0, 0, 0, 0), (67, .goto (-38), 3, 29, 0, 0, 0), (70, .aload_n 0, 1, 0, 0, 0, 0), (71, .getfield 27, 3, 5, 7, 0, 319), (74, .iload_n 1, 1, 0, 0, 0, 0), (75, .aload_n 0, 1, 0, 0, 0, 0), (76, .getfield 30, 3, 5, 8, 0, 320), (79, .iload_n 1, 1, 0, 0, 0, 0), (80, .iaload, 1, 0, 0, 0, 0), (81, .iastore, 1, 0, 0, 0, 0), (82, .return_, 1, 0, 0, 0, 0)]
def mm_m73 : mm_M := (⟨"LineMap$Search", "settle", "(II)V"⟩, prog_7_method_4_code, 4, none, 5, mm_k73, 776, 775, 33, 86, 0)
theorem mm_c73 : mm_mchk mm_m73 = true := by decide +kernel
/-- LineMap$Search.arrange()V -/
def mm_k74 : List mm_E := [(0, .iconst 0, 1, 0, 0, 0, 0), (1, .istore_n 1, 1, 0, 0, 0, 0), (2, .iload_n 1, 1, 0, 0, 0, 0), (3, .aload_n 0, 1, 0, 0, 0, 0), (4, .getfield 43, 3, 5, 0, 0, 312), (7, .getfield 89, 3, 2, 0, 0, 111), (10, .if_icmp .ge 16, 3, 26, 0, 0, 0), (13, .aload_n 0, 1, 0, 0, 0, 0), (14, .getfield 36, 3, 5, 10, 0, 322), (17, .iload_n 1, 1, 0, 0, 0, 0), (18, .iconst 0, 1, 0, 0, 0, 0), (19, .bastore, 1, 0, 0, 0, 0), (20, .iinc 1 1, 3, 0, 0, 0, 0), (23, .goto (-21), 3, 2, 0, 0, 0), (26, .iconst 0, 1, 0, 0, 0, 0), (27, .istore_n 1, 1, 0, 0, 0, 0), (28, .iload_n 1, 1, 0, 0, 0, 0), (29, .aload_n 0, 1, 0, 0, 0, 0), (30, .getfield 43, 3, 5, 0, 0, 312), (33, .getfield 89, 3, 2, 0, 0, 111), (36, .if_icmp .ge 82, 3, 118, 0, 0, 0), (39, .iconst 0, 1, 0, 0, 0, 0), (40, .istore_n 2, 1, 0, 0, 0, 0), (41, .iconst (-1), 1, 0, 0, 0, 0), (42, .istore_n 3, 1, 0, 0, 0, 0), (43, .iconst 0, 1, 0, 0, 0, 0), (44, .istore 4, 2, 0, 0, 0, 0), (46, .iload 4, 2, 0, 0, 0, 0), (48, .aload_n 0, 1, 0, 0, 0, 0), (49, .getfield 43, 3, 5, 0, 0, 312), (52, .getfield 89, 3, 2, 0, 0, 111), (55, .if_icmp .ge 43, 3, 98, 0, 0, 0), (58, .aload_n 0, 1, 0, 0, 0, 0), (59, .getfield 36, 3, 5, 10, 0, 322), (62, .iload 4, 2, 0, 0, 0, 0), (64, .baload, 1, 0, 0, 0, 0), (65, .ifCond .eq 7, 3, 72, 0, 0, 0), (68, .iconst (-1), 1, 0, 0, 0, 0), (69, .goto 9, 3, 78, 0, 0, 0), (72, .aload_n 0, 1, 0, 0, 0, 0), (73, .iload 4, 2, 0, 0, 0, 0), (75, .invokevirtual 137, 3, 75, 1, 5, 709), (78, .istore 5, 2, 0, 0, 0, 0), (80, .iload 5, 2, 0, 0, 0, 0), (82, .iload_n 3, 1, 0, 0, 0, 0), (83, .if_icmp .le 9, 3, 92, 0, 0, 0), (86, .iload 5, 2, 0, 0, 0, 0), (88, .istore_n 3, 1, 0, 0, 0, 0), (89, .iload 4, 2, 0, 0, 0, 0), (91, .istore_n 2, 1, 0, 0, 0, 0), (92, .iinc 4 1, 3, 0, 0, 0, 0), (95, .goto (-49), 3, 46, 0, 0, 0), (98, .aload_n 0, 1, 0, 0, 0, 0), (99, .getfield 33, 3, 5, 9, 0, 321), (102, .iload_n 1, 1, 0, 0, 0, 0), (103, .iload_n 2, 1, 0, 0, 0, 0), (104, .iastore, 1, 0, 0, 0, 0), (105, .aload_n 0, 1, 0, 0, 0, 0), (106, .getfield 36, 3, 5, 10, 0, 322), (109, .iload_n 2, 1, 0, 0, 0, 0), (110, .iconst 1, 1, 0, 0, 0, 0), (111, .bastore, 1, 0, 0, 0, 0), (112, .iinc 1 1, 3, 0, 0, 0, 0), (115, .goto (-87), 3, 28, 0, 0, 0), (118, .aload_n 0, 1, 0, 0, 0, 0), (119, .invokevirtual 140, 3, 77, 0, 5, 717), (122, .return_, 1, 0, 0, 0, 0)]
def mm_m74 : mm_M := (⟨"LineMap$Search", "arrange", "()V"⟩, prog_7_method_5_code, 6, none, 5, mm_k74, 708, 707, 21, 86, 0)
theorem mm_c74 : mm_mchk mm_m74 = true := by decide +kernel
/-- LineMap$Search.urgencyOf(I)I -/
def mm_k75 : List mm_E := [(0, .aload_n 0, 1, 0, 0, 0, 0), (1, .getfield 27, 3, 5, 7, 0, 319), (4, .iload_n 1, 1, 0, 0, 0, 0), (5, .iaload, 1, 0, 0, 0, 0), (6, .iconst (-1), 1, 0, 0, 0, 0), (7, .if_icmp .ne 7, 3, 14, 0, 0, 0), (10, .iconst 0, 1, 0, 0, 0, 0), (11, .goto 6, 3, 17, 0, 0, 0), (14, .sipush 10000, 3, 0, 0, 0, 0), (17, .bipush 100, 2, 0, 0, 0, 0), (19, .aload_n 0, 1, 0, 0, 0, 0), (20, .iload_n 1, 1, 0, 0, 0, 0), (21, .invokevirtual 143, 3, 76, 1, 5, 713), (24, .imul, 1, 0, 0, 0, 0), (25, .iadd, 1, 0, 0, 0, 0), (26, .aload_n 0, 1, 0, 0, 0, 0), (27, .getfield 43, 3, 5, 0, 0, 312), (30, .getfield 146, 3, 2, 11, 0, 148), (33, .iload_n 1, 1, 0, 0, 0, 0), (34, .iaload, 1, 0, 0, 0, 0), (35, .iadd, 1, 0, 0, 0, 0), (36, .ireturn, 1, 0, 0, 0, 0)]
def mm_m75 : mm_M := (⟨"LineMap$Search", "urgencyOf", "(I)I"⟩, prog_7_method_6_code, 2, some .int, 5, mm_k75, 712, 711, 22, 86, 0)
theorem mm_c75 : mm_mchk mm_m75 = true := by decide +kernel
end
section
/-- LineMap$Search.edgesToOrdered(I)I -/
def mm_k76 : List mm_E := [(0, .iconst 0, 1, 0, 0, 0, 0), (1, .istore_n 2, 1, 0, 0, 0, 0), (2, .iconst 0, 1, 0, 0, 0, 0), (3, .istore_n 3, 1, 0, 0, 0, 0), (4, .iload_n 3, 1, 0, 0, 0, 0), (5, .aload_n 0, 1, 0, 0, 0, 0), (6, .getfield 43, 3, 5, 0, 0, 312), (9, .getfield 146, 3, 2, 11, 0, 148), (12, .iload_n 1, 1, 0, 0, 0, 0), (13, .iaload, 1, 0, 0, 0, 0), (14, .if_icmp .ge 36, 3, 50, 0, 0, 0), (17, .iload_n 2, 1, 0, 0, 0, 0), (18, .aload_n 0, 1, 0, 0, 0, 0), (19, .getfield 36, 3, 5, 10, 0, 322), (22, .aload_n 0, 1, 0, 0, 0, 0), (23, .getfield 43, 3, 5, 0, 0, 312), (26, .getfield 149, 3, 2, 12, 0, 153), (29, .iload_n 1, 1, 0, 0, 0, 0), (30, .aaload, 1, 0, 0, 0, 0), (31, .iload_n 3, 1, 0, 0, 0, 0), (32, .iaload, 1, 0, 0, 0, 0), (33, .baload, 1, 0, 0, 0, 0), (34, .ifCond .eq 7, 3, 41, 0, 0, 0), (37, .iconst 1, 1, 0, 0, 0, 0), (38, .goto 4, 3, 42, 0, 0, 0), (41, .iconst 0, 1, 0, 0, 0, 0), (42, .iadd, 1, 0, 0, 0, 0), (43, .istore_n 2, 1, 0, 0, 0, 0), (44, .iinc 3 1, 3, 0, 0, 0, 0), (47, .goto (-43), 3, 4, 0, 0, 0), (50, .iload_n 2, 1, 0, 0, 0, 0), (51, .ireturn, 1, 0, 0, 0, 0)]
def mm_m76 : mm_M := (⟨"LineMap$Search", "edgesToOrdered", "(I)I"⟩, prog_7_method_7_code, 4, some .int, 5, mm_k76, 716, 715, 23, 86, 0)
theorem mm_c76 : mm_mchk mm_m76 = true := by decide +kernel
/-- LineMap$Search.countRest()V -/
def mm_k77 : List mm_E := [(0, .iconst 0, 1, 0, 0, 0, 0), (1, .istore_n 1, 1, 0, 0, 0, 0), (2, .iload_n 1, 1, 0, 0, 0, 0), (3, .aload_n 0, 1, 0, 0, 0, 0), (4, .getfield 43, 3, 5, 0, 0, 312), (7, .getfield 89, 3, 2, 0, 0, 111), (10, .if_icmp .ge 16, 3, 26, 0, 0, 0), (13, .aload_n 0, 1, 0, 0, 0, 0), (14, .getfield 36, 3, 5, 10, 0, 322), (17, .iload_n 1, 1, 0, 0, 0, 0), (18, .iconst 0, 1, 0, 0, 0, 0), (19, .bastore, 1, 0, 0, 0, 0), (20, .iinc 1 1, 3, 0, 0, 0, 0), (23, .goto (-21), 3, 2, 0, 0, 0), (26, .aload_n 0, 1, 0, 0, 0, 0), (27, .getfield 40, 3, 5, 11, 0, 323), (30, .iconst 0, 1, 0, 0, 0, 0), (31, .aload_n 0, 1, 0, 0, 0, 0), (32, .getfield 43, 3, 5, 0, 0, 312), (35, .getfield 152, 3, 2, 2, 0, 121), (38, .aload_n 0, 1, 0, 0, 0, 0), (39, .getfield 47, 3, 5, 1, 0, 313), (42, .getfield 132, 3, 6, 3, 0, 243), (45, .imul, 1, 0, 0, 0, 0), (46, .aload_n 0, 1, 0, 0, 0, 0), (47, .getfield 47, 3, 5, 1, 0, 313), (50, .getfield 155, 3, 6, 1, 0, 237), (53, .imul, 1, 0, 0, 0, 0), (54, .iastore, 1, 0, 0, 0, 0), (55, .iconst 0, 1, 0, 0, 0, 0), (56, .istore_n 1, 1, 0, 0, 0, 0), (57, .iload_n 1, 1, 0, 0, 0, 0), (58, .aload_n 0, 1, 0, 0, 0, 0), (59, .getfield 43, 3, 5, 0, 0, 312), (62, .getfield 89, 3, 2, 0, 0, 111), (65, .if_icmp .ge 59, 3, 124, 0, 0, 0), (68, .aload_n 0, 1, 0, 0, 0, 0), (69, .getfield 33, 3, 5, 9, 0, 321), (72, .iload_n 1, 1, 0, 0, 0, 0), (73, .iaload, 1, 0, 0, 0, 0), (74, .istore_n 2, 1, 0, 0, 0, 0), (75, .aload_n 0, 1, 0, 0, 0, 0), (76, .getfield 40, 3, 5, 11, 0, 323), (79, .iload_n 1, 1, 0, 0, 0, 0), (80, .iconst 1, 1, 0, 0, 0, 0), (81, .iadd, 1, 0, 0, 0, 0), (82, .aload_n 0, 1, 0, 0, 0, 0), (83, .getfield 40, 3, 5, 11, 0, 323), (86, .iload_n 1, 1, 0, 0, 0, 0), (87, .iaload, 1, 0, 0, 0, 0), (88, .aload_n 0, 1, 0, 0, 0, 0), (89, .iload_n 2, 1, 0, 0, 0, 0), (90, .invokevirtual 143, 3, 76, 1, 5, 713), (93, .aload_n 0, 1, 0, 0, 0, 0), (94, .getfield 47, 3, 5, 1, 0, 313), (97, .getfield 132, 3, 6, 3, 0, 243), (100, .imul, 1, 0, 0, 0, 0), (101, .aload_n 0, 1, 0, 0, 0, 0), (102, .getfield 47, 3, 5, 1, 0, 313), (105, .getfield 155, 3, 6, 1, 0, 237), (108, .imul, 1, 0, 0, 0, 0), (109, .isub, 1, 0, 0, 0, 0), (110, .iastore, 1, 0, 0, 0, 0), (111, .aload_n 0, 1, 0, 0, 0, 0), (112, .getfield 36, 3, 5, 10, 0, 322), (115, .iload_n 2, 1, 0, 0, 0, 0), (116, .iconst 1, 1, 0, 0, 0, 0), (117, .bastore, 1, 0, 0, 0, 0), (118, .iinc 1 1, 3, 0, 0, 0, 0), (121, .goto (-64), 3, 57, 0, 0, 0), (124, .return_, 1, 0, 0, 0, 0)]
def mm_m77 : mm_M := (⟨"LineMap$Search", "countRest", "()V"⟩, prog_7_method_8_code, 3, none, 5, mm_k77, 720, 719, 24, 86, 0)
theorem mm_c77 : mm_mchk mm_m77 = true := by decide +kernel
/-- LineMap$Search.descend(III)Z -/
def mm_k78 : List mm_E := [(0, .iload_n 1, 1, 0, 0, 0, 0), (1, .aload_n 0, 1, 0, 0, 0, 0), (2, .getfield 43, 3, 5, 0, 0, 312), (5, .getfield 89, 3, 2, 0, 0, 111), (8, .if_icmp .lt 9, 3, 17, 0, 0, 0), (11, .aload_n 0, 1, 0, 0, 0, 0), (12, .iload_n 2, 1, 0, 0, 0, 0), (13, .invokevirtual 158, 3, 79, 1, 5, 726), (16, .ireturn, 1, 0, 0, 0, 0), (17, .aload_n 0, 1, 0, 0, 0, 0), (18, .getfield 33, 3, 5, 9, 0, 321), (21, .iload_n 1, 1, 0, 0, 0, 0), (22, .iaload, 1, 0, 0, 0, 0), (23, .istore 4, 2, 0, 0, 0, 0), (25, .aload_n 0, 1, 0, 0, 0, 0), (26, .iload_n 1, 1, 0, 0, 0, 0), (27, .invokevirtual 162, 3, 80, 1, 5, 730), (30, .iload_n 3, 1, 0, 0, 0, 0), (31, .iconst (-1), 1, 0, 0, 0, 0), (32, .ixor, 1, 0, 0, 0, 0), (33, .iand, 1, 0, 0, 0, 0), (34, .istore 5, 2, 0, 0, 0, 0), (36, .iconst 0, 1, 0, 0, 0, 0), (37, .istore 6, 2, 0, 0, 0, 0), (39, .iconst 0, 1, 0, 0, 0, 0), (40, .istore 7, 2, 0, 0, 0, 0), (42, .iload 7, 2, 0, 0, 0, 0), (44, .aload_n 0, 1, 0, 0, 0, 0), (45, .getfield 12, 3, 5, 2, 0, 314), (48, .invokevirtual 165, 3, 45, 0, 3, 739), (51, .if_icmp .ge 126, 3, 177, 0, 0, 0), (54, .iload 6, 2, 0, 0, 0, 0), (56, .ifCond .ne 121, 3, 177, 0, 0, 0), (59, .iload 5, 2, 0, 0, 0, 0), (61, .iload 7, 2, 0, 0, 0, 0), (63, .ishr, 1, 0, 0, 0, 0), (64, .iconst 1, 1, 0, 0, 0, 0), (65, .iand, 1, 0, 0, 0, 0), (66, .ifCond .ne 6, 3, 72, 0, 0, 0), (69, .goto 102, 3, 171, 0, 0, 0), (72, .aload_n 0, 1, 0, 0, 0, 0), (73, .getfield 12, 3, 5, 2, 0, 314), (76, .iload 4, 2, 0, 0, 0, 0), (78, .iload 7, 2, 0, 0, 0, 0), (80, .invokevirtual 120, 3, 48, 2, 3, 740), (83, .iload_n 2, 1, 0, 0, 0, 0), (84, .aload_n 0, 1, 0, 0, 0, 0), (85, .getfield 63, 3, 5, 4, 0, 316), (88, .iload 4, 2, 0, 0, 0, 0), (90, .invokevirtual 168, 3, 67, 1, 4, 741), (93, .iadd, 1, 0, 0, 0, 0), (94, .istore 8, 2, 0, 0, 0, 0), (96, .iload 8, 2, 0, 0, 0, 0), (98, .aload_n 0, 1, 0, 0, 0, 0), (99, .getfield 40, 3, 5, 11, 0, 323), (102, .iload_n 1, 1, 0, 0, 0, 0), (103, .iconst 1, 1, 0, 0, 0, 0), (104, .iadd, 1, 0, 0, 0, 0), (105, .iaload, 1, 0, 0, 0, 0), (106, .iadd, 1, 0, 0, 0, 0), (107, .aload_n 0, 1, 0, 0, 0, 0), (108, .getfield 107, 3, 5, 13, 0, 325), (111, .if_icmp .ge 60, 3, 171, 0, 0, 0), (114, .aload_n 0, 1, 0, 0, 0, 0), (115, .iload 4, 2, 0, 0, 0, 0), (117, .iload 7, 2, 0, 0, 0, 0), (119, .iload_n 3, 1, 0, 0, 0, 0), (120, .invokevirtual 171, 3, 82, 3, 5, 756), (123, .istore 9, 2, 0, 0, 0, 0), (125, .iload 9, 2, 0, 0, 0, 0), (127, .iconst (-1), 1, 0, 0, 0, 0), (128, .if_icmp .eq 40, 3, 168, 0, 0, 0), (131, .aload_n 0, 1, 0, 0, 0, 0), (132, .getfield 56, 3, 5, 3, 0, 315), (135, .iload 4, 2, 0, 0, 0, 0), (137, .invokevirtual 175, 3, 21, 1, 0, 769), (140, .ifCond .eq 28, 3, 168, 0, 0, 0), (143, .aload_n 0, 1, 0, 0, 0, 0), (144, .iload_n 1, 1, 0, 0, 0, 0), (145, .iconst 1, 1, 0, 0, 0, 0), (146, .iadd, 1, 0, 0, 0, 0), (147, .iload 8, 2, 0, 0, 0, 0), (149, .iload_n 3, 1, 0, 0, 0, 0), (150, .iload 9, 2, 0, 0, 0, 0), (152, .ior, 1, 0, 0, 0, 0), (153, .iconst 1, 1, 0, 0, 0, 0), (154, .iload 7, 2, 0, 0, 0, 0), (156, .ishl, 1, 0, 0, 0, 0), (157, .ior, 1, 0, 0, 0, 0), (158, .invokevirtual 113, 3, 78, 3, 5, 722), (161, .ifCond .eq 7, 3, 168, 0, 0, 0), (164, .iconst 1, 1, 0, 0, 0, 0), (165, .goto 4, 3, 169, 0, 0, 0), (168, .iconst 0, 1, 0, 0, 0, 0), (169, .istore 6, 2, 0, 0, 0, 0), (171, .iinc 7 1, 3, 0, 0, 0, 0), (174, .goto (-132), 3, 42, 0, 0, 0), (177, .aload_n 0, 1, 0, 0, 0, 0), (178, .getfield 12, 3, 5, 2, 0, 314), (181, .iload 4, 2, 0, 0, 0, 0), (183, .iconst (-1), 1, 0, 0, 0, 0), (184, .invokevirtual 120, 3, 48, 2, 3, 740), (187, .iload 6, 2, 0, 0, 0, 0), (189, .ireturn, 1, 0, 0, 0, 0)]
def mm_m78 : mm_M := (⟨"LineMap$Search", "descend", "(III)Z"⟩, prog_7_method_9_code, 10, some .boolean, 5, mm_k78, 725, 724, 25, 86, 0)
theorem mm_c78 : mm_mchk mm_m78 = true := by decide +kernel
/-- LineMap$Search.keep(I)Z -/
def mm_k79 : List mm_E := [(0, .aload_n 0, 1, 0, 0, 0, 0), (1, .iload_n 1, 1, 0, 0, 0, 0), (2, .putfield 107, 3, 5, 13, 0, 325), (5, .iconst 0, 1, 0, 0, 0, 0), (6, .istore_n 2, 1, 0, 0, 0, 0), (7, .iload_n 2, 1, 0, 0, 0, 0), (8, .aload_n 0, 1, 0, 0, 0, 0), (9, .getfield 43, 3, 5, 0, 0, 312), (12, .getfield 89, 3, 2, 0, 0, 111), (15, .if_icmp .ge 23, 3, 38, 0, 0, 0), (18, .aload_n 0, 1, 0, 0, 0, 0), (19, .getfield 30, 3, 5, 8, 0, 320), (22, .iload_n 2, 1, 0, 0, 0, 0), (23, .aload_n 0, 1, 0, 0, 0, 0), (24, .getfield 12, 3, 5, 2, 0, 314), (27, .iload_n 2, 1, 0, 0, 0, 0), (28, .invokevirtual 97, 3, 47, 1, 3, 704), (31, .iastore, 1, 0, 0, 0, 0), (32, .iinc 2 1, 3, 0, 0, 0, 0), (35, .goto (-28), 3, 7, 0, 0, 0), (38, .aload_n 0, 1, 0, 0, 0, 0), (39, .getfield 107, 3, 5, 13, 0, 325), (42, .aload_n 0, 1, 0, 0, 0, 0), (43, .getfield 110, 3, 5, 14, 0, 326), (46, .if_icmp .gt 7, 3, 53, 0, 0, 0), (49, .iconst 1, 1, 0, 0, 0, 0), (50, .goto 4, 3, 54, 0, 0, 0), (53, .iconst 0, 1, 0, 0, 0, 0), (54, .ireturn, 1, 0, 0, 0, 0)]
def mm_m79 : mm_M := (⟨"LineMap$Search", "keep", "(I)Z"⟩, prog_7_method_10_code, 3, some .boolean, 5, mm_k79, 729, 728, 26, 86, 0)
theorem mm_c79 : mm_mchk mm_m79 = true := by decide +kernel
/-- LineMap$Search.openPoints(I)I -/
def mm_k80 : List mm_E := [(0, .aload_n 0, 1, 0, 0, 0, 0), (1, .getfield 33, 3, 5, 9, 0, 321), (4, .iload_n 1, 1, 0, 0, 0, 0), (5, .iaload, 1, 0, 0, 0, 0), (6, .istore_n 2, 1, 0, 0, 0, 0), (7, .aload_n 0, 1, 0, 0, 0, 0), (8, .getfield 27, 3, 5, 7, 0, 319), (11, .iload_n 2, 1, 0, 0, 0, 0), (12, .iaload, 1, 0, 0, 0, 0), (13, .iconst (-1), 1, 0, 0, 0, 0), (14, .if_icmp .ne 7, 3, 21, 0, 0, 0), (17, .iconst (-1), 1, 0, 0, 0, 0), (18, .goto 11, 3, 29, 0, 0, 0), (21, .iconst 1, 1, 0, 0, 0, 0), (22, .aload_n 0, 1, 0, 0, 0, 0), (23, .getfield 27, 3, 5, 7, 0, 319), (26, .iload_n 2, 1, 0, 0, 0, 0), (27, .iaload, 1, 0, 0, 0, 0), (28, .ishl, 1, 0, 0, 0, 0), (29, .istore_n 3, 1, 0, 0, 0, 0), (30, .iconst 0, 1, 0, 0, 0, 0), (31, .istore 4, 2, 0, 0, 0, 0), (33, .iload 4, 2, 0, 0, 0, 0), (35, .aload_n 0, 1, 0, 0, 0, 0), (36, .getfield 43, 3, 5, 0, 0, 312), (39, .getfield 146, 3, 2, 11, 0, 148), (42, .iload_n 2, 1, 0, 0, 0, 0), (43, .iaload, 1, 0, 0, 0, 0), (44, .if_icmp .ge 52, 3, 96, 0, 0, 0), (47, .aload_n 0, 1, 0, 0, 0, 0), (48, .getfield 43, 3, 5, 0, 0, 312), (51, .getfield 149, 3, 2, 12, 0, 153), (54, .iload_n 2, 1, 0, 0, 0, 0), (55, .aaload, 1, 0, 0, 0, 0), (56, .iload 4, 2, 0, 0, 0, 0), (58, .iaload, 1, 0, 0, 0, 0), (59, .istore 5, 2, 0, 0, 0, 0), (61, .aload_n 0, 1, 0, 0, 0, 0), (62, .getfield 12, 3, 5, 2, 0, 314), (65, .iload 5, 2, 0, 0, 0, 0), (67, .invokevirtual 178, 3, 46, 1, 3, 734), (70, .ifCond .eq 20, 3, 90, 0, 0, 0), (73, .iload_n 3, 1, 0, 0, 0, 0), (74, .aload_n 0, 1, 0, 0, 0, 0), (75, .getfield 18, 3, 5, 5, 0, 317), (78, .aload_n 0, 1, 0, 0, 0, 0), (79, .getfield 12, 3, 5, 2, 0, 314), (82, .iload 5, 2, 0, 0, 0, 0), (84, .invokevirtual 97, 3, 47, 1, 3, 704), (87, .iaload, 1, 0, 0, 0, 0), (88, .iand, 1, 0, 0, 0, 0), (89, .istore_n 3, 1, 0, 0, 0, 0), (90, .iinc 4 1, 3, 0, 0, 0, 0), (93, .goto (-60), 3, 33, 0, 0, 0), (96, .iload_n 1, 1, 0, 0, 0, 0), (97, .aload_n 0, 1, 0, 0, 0, 0), (98, .getfield 43, 3, 5, 0, 0, 312), (101, .getfield 89, 3, 2, 0, 0, 111), (104, .iconst 1, 1, 0, 0, 0, 0), (105, .isub, 1, 0, 0, 0, 0), (106, .if_icmp .ne 19, 3, 125, 0, 0, 0), (109, .aload_n 0, 1, 0, 0, 0, 0), (110, .getfield 85, 3, 5, 12, 0, 324), (113, .ifCond .ne 12, 3, 125, 0, 0, 0), (116, .iload_n 3, 1, 0, 0, 0, 0), (117, .aload_n 0, 1, 0, 0, 0, 0), (118, .invokevirtual 181, 3, 81, 0, 5, 735), (121, .iand, 1, 0, 0, 0, 0), (122, .goto 4, 3, 126, 0, 0, 0), (125, .iload_n 3, 1, 0, 0, 0, 0), (126, .ireturn, 1, 0, 0, 0, 0)]
def mm_m80 : mm_M := (⟨"LineMap$Search", "openPoints", "(I)I"⟩, prog_7_method_11_code, 6, some .int, 5, mm_k80, 733, 732, 27, 86, 0)
theorem mm_c80 : mm_mchk mm_m80 = true := by decide +kernel
/-- LineMap$Search.flushPoints()I -/
def mm_k81 : List mm_E := [(0, .iconst 0, 1, 0, 0, 0, 0), (1, .istore_n 1, 1, 0, 0, 0, 0), (2, .iconst 0, 1, 0, 0, 0, 0), (3, .istore_n 2, 1, 0, 0, 0, 0), (4, .iconst 0, 1, 0, 0, 0, 0), (5, .istore_n 3, 1, 0, 0, 0, 0), (6, .iload_n 3, 1, 0, 0, 0, 0), (7, .aload_n 0, 1, 0, 0, 0, 0), (8, .getfield 43, 3, 5, 0, 0, 312), (11, .getfield 89, 3, 2, 0, 0, 111), (14, .if_icmp .ge 49, 3, 63, 0, 0, 0), (17, .iload_n 1, 1, 0, 0, 0, 0), (18, .aload_n 0, 1, 0, 0, 0, 0), (19, .getfield 12, 3, 5, 2, 0, 314), (22, .getfield 184, 3, 3, 2, 0, 207), (25, .iload_n 3, 1, 0, 0, 0, 0), (26, .iaload, 1, 0, 0, 0, 0), (27, .ifCond .ne 7, 3, 34, 0, 0, 0), (30, .iconst 1, 1, 0, 0, 0, 0), (31, .goto 4, 3, 35, 0, 0, 0), (34, .iconst 0, 1, 0, 0, 0, 0), (35, .ior, 1, 0, 0, 0, 0), (36, .istore_n 1, 1, 0, 0, 0, 0), (37, .iload_n 2, 1, 0, 0, 0, 0), (38, .aload_n 0, 1, 0, 0, 0, 0), (39, .getfield 12, 3, 5, 2, 0, 314), (42, .getfield 187, 3, 3, 3, 0, 210), (45, .iload_n 3, 1, 0, 0, 0, 0), (46, .iaload, 1, 0, 0, 0, 0), (47, .ifCond .ne 7, 3, 54, 0, 0, 0), (50, .iconst 1, 1, 0, 0, 0, 0), (51, .goto 4, 3, 55, 0, 0, 0), (54, .iconst 0, 1, 0, 0, 0, 0), (55, .ior, 1, 0, 0, 0, 0), (56, .istore_n 2, 1, 0, 0, 0, 0), (57, .iinc 3 1, 3, 0, 0, 0, 0), (60, .goto (-54), 3, 6, 0, 0, 0), (63, .iconst 0, 1, 0, 0, 0, 0), (64, .istore_n 3, 1, 0, 0, 0, 0), (65, .iconst 0, 1, 0, 0, 0, 0), (66, .istore 4, 2, 0, 0, 0, 0), (68, .iload 4, 2, 0, 0, 0, 0), (70, .aload_n 0, 1, 0, 0, 0, 0), (71, .getfield 12, 3, 5, 2, 0, 314), (74, .getfield 71, 3, 3, 1, 0, 203), (77, .if_icmp .ge 24, 3, 101, 0, 0, 0), (80, .iload_n 3, 1, 0, 0, 0, 0), (81, .iconst 1, 1, 0, 0, 0, 0), (82, .iload 4, 2, 0, 0, 0, 0), (84, .aload_n 0, 1, 0, 0, 0, 0), (85, .getfield 12, 3, 5, 2, 0, 314), (88, .getfield 67, 3, 3, 0, 0, 200), (91, .imul, 1, 0, 0, 0, 0), (92, .ishl, 1, 0, 0, 0, 0), (93, .ior, 1, 0, 0, 0, 0), (94, .istore_n 3, 1, 0, 0, 0, 0), (95, .iinc 4 1, 3, 0, 0, 0, 0), (98, .goto (-30), 3, 68, 0, 0, 0), (101, .iconst 1, 1, 0, 0, 0, 0), (102, .aload_n 0, 1, 0, 0, 0, 0), (103, .getfield 12, 3, 5, 2, 0, 314), (106, .getfield 67, 3, 3, 0, 0, 200), (109, .ishl, 1, 0, 0, 0, 0), (110, .iconst 1, 1, 0, 0, 0, 0), (111, .isub, 1, 0, 0, 0, 0), (112, .istore 4, 2, 0, 0, 0, 0), (114, .iload_n 1, 1, 0, 0, 0, 0), (115, .ifCond .eq 7, 3, 122, 0, 0, 0), (118, .iconst (-1), 1, 0, 0, 0, 0), (119, .goto 4, 3, 123, 0, 0, 0), (122, .iload_n 3, 1, 0, 0, 0, 0), (123, .iload_n 2, 1, 0, 0, 0, 0), (124, .ifCond .eq 7, 3, 131, 0, 0, 0), (127, .iconst (-1), 1, 0, 0, 0, 0), (128, .goto 5, 3, 133, 0, 0, 0), (131, .iload 4, 2, 0, 0, 0, 0), (133, .iand, 1, 0, 0, 0, 0), (134, .ireturn, 1, 0, 0, 0, 0)]
def mm_m81 : mm_M := (⟨"LineMap$Search", "flushPoints", "()I"⟩, prog_7_method_12_code, 5, some .int, 5, mm_k81, 738, 737, 28, 86, 0)
theorem mm_c81 : mm_mchk mm_m81 = true := by decide +kernel
/-- LineMap$Search.passedPoints(III)I -/
def mm_k82 : List mm_E := [(0, .iconst 0, 1, 0, 0, 0, 0), (1, .istore 4, 2, 0, 0, 0, 0), (3, .iconst 0, 1, 0, 0, 0, 0), (4, .istore 5, 2, 0, 0, 0, 0), (6, .iload 5, 2, 0, 0, 0, 0), (8, .aload_n 0, 1, 0, 0, 0, 0), (9, .getfield 43, 3, 5, 0, 0, 312), (12, .getfield 146, 3, 2, 11, 0, 148), (15, .iload_n 1, 1, 0, 0, 0, 0), (16, .iaload, 1, 0, 0, 0, 0), (17, .if_icmp .ge 109, 3, 126, 0, 0, 0), (20, .aload_n 0, 1, 0, 0, 0, 0), (21, .getfield 43, 3, 5, 0, 0, 312), (24, .getfield 149, 3, 2, 12, 0, 153), (27, .iload_n 1, 1, 0, 0, 0, 0), (28, .aaload, 1, 0, 0, 0, 0), (29, .iload 5, 2, 0, 0, 0, 0), (31, .iaload, 1, 0, 0, 0, 0), (32, .istore 6, 2, 0, 0, 0, 0), (34, .aload_n 0, 1, 0, 0, 0, 0), (35, .getfield 12, 3, 5, 2, 0, 314), (38, .iload 6, 2, 0, 0, 0, 0), (40, .invokevirtual 178, 3, 46, 1, 3, 734), (43, .ifCond .ne 6, 3, 49, 0, 0, 0), (46, .goto 74, 3, 120, 0, 0, 0), (49, .iload 4, 2, 0, 0, 0, 0), (51, .aload_n 0, 1, 0, 0, 0, 0), (52, .getfield 24, 3, 5, 6, 0, 318), (55, .iload_n 2, 1, 0, 0, 0, 0), (56, .aaload, 1, 0, 0, 0, 0), (57, .aload_n 0, 1, 0, 0, 0, 0), (58, .getfield 12, 3, 5, 2, 0, 314), (61, .iload 6, 2, 0, 0, 0, 0), (63, .invokevirtual 97, 3, 47, 1, 3, 704), (66, .iaload, 1, 0, 0, 0, 0), (67, .ior, 1, 0, 0, 0, 0), (68, .istore 4, 2, 0, 0, 0, 0), (70, .aload_n 0, 1, 0, 0, 0, 0), (71, .getfield 12, 3, 5, 2, 0, 314), (74, .iload_n 1, 1, 0, 0, 0, 0), (75, .iload 6, 2, 0, 0, 0, 0), (77, .invokevirtual 190, 3, 52, 2, 3, 760), (80, .iconst 1, 1, 0, 0, 0, 0), (81, .iand, 1, 0, 0, 0, 0), (82, .iconst 1, 1, 0, 0, 0, 0), (83, .if_icmp .ne 7, 3, 90, 0, 0, 0), (86, .iconst 1, 1, 0, 0, 0, 0), (87, .goto 4, 3, 91, 0, 0, 0), (90, .iconst 0, 1, 0, 0, 0, 0), (91, .istore 7, 2, 0, 0, 0, 0), (93, .iload 4, 2, 0, 0, 0, 0), (95, .iload_n 3, 1, 0, 0, 0, 0), (96, .iand, 1, 0, 0, 0, 0), (97, .ifCond .ne 21, 3, 118, 0, 0, 0), (100, .iload 7, 2, 0, 0, 0, 0), (102, .ifCond .eq 18, 3, 120, 0, 0, 0), (105, .aload_n 0, 1, 0, 0, 0, 0), (106, .getfield 56, 3, 5, 3, 0, 315), (109, .iload_n 1, 1, 0, 0, 0, 0), (110, .iload 6, 2, 0, 0, 0, 0), (112, .invokevirtual 194, 3, 20, 2, 0, 761), (115, .ifCond .eq 5, 3, 120, 0, 0, 0), (118, .iconst (-1), 1, 0, 0, 0, 0), (119, .ireturn, 1, 0, 0, 0, 0), (120, .iinc 5 1, 3, 0, 0, 0, 0), (123, .goto (-117), 3, 6, 0, 0, 0), (126, .iload 4, 2, 0, 0, 0, 0), (128, .ireturn, 1, 0, 0, 0, 0)]
def mm_m82 : mm_M := (⟨"LineMap$Search", "passedPoints", "(III)I"⟩, prog_7_method_13_code, 8, some .int, 5, mm_k82, 759, 758, 31, 86, 0)
theorem mm_c82 : mm_mchk mm_m82 = true := by decide +kernel
/-- LineMap$Terms.<init>()V -/
def mm_k83 : List mm_E := [(0, .aload_n 0, 1, 0, 0, 0, 0), (1, .invokespecial 1, 3, 0, 0, 2, 231), (4, .aload_n 0, 1, 0, 0, 0, 0), (5, .bipush 10, 2, 0, 0, 0, 0), (7, .putfield 7, 3, 6, 0, 0, 232), (10, .aload_n 0, 1, 0, 0, 0, 0), (11, .iconst 1, 1, 0, 0, 0, 0), (12, .putfield 13, 3, 6, 1, 0, 235), (15, .aload_n 0, 1, 0, 0, 0, 0), (16, .iconst 3, 1, 0, 0, 0, 0), (17, .putfield 16, 3, 6, 2, 0, 239), (20, .aload_n 0, 1, 0, 0, 0, 0), (21, .iconst 1, 1, 0, 0, 0, 0), (22, .putfield 19, 3, 6, 3, 0, 242), (25, .return_, 1, 0, 0, 0, 0)]
def mm_m83 : mm_M := (⟨"LineMap$Terms", "<init>", "()V"⟩, prog_8_method_1_code, 1, none, 6, mm_k83, 230, 229, 0, 83, 2)
theorem mm_c83 : mm_mchk mm_m83 = true := by decide +kernel
/-- LineMap.<init>()V -/
def mm_k84 : List mm_E := [(0, .aload_n 0, 1, 0, 0, 0, 0), (1, .invokespecial 1, 3, 0, 0, 2, 95), (4, .aload_n 0, 1, 0, 0, 0, 0), (5, .new 7, 3, 2, 0, 0, 98), (8, .dup, 1, 0, 0, 0, 0), (9, .invokespecial 9, 3, 30, 0, 0, 100), (12, .putfield 10, 3, 7, 0, 2, 398), (15, .aload_n 0, 1, 0, 0, 0, 0), (16, .new 16, 3, 3, 0, 0, 189), (19, .dup, 1, 0, 0, 0, 0), (20, .invokespecial 18, 3, 43, 0, 0, 191), (23, .putfield 19, 3, 7, 1, 2, 399), (26, .aload_n 0, 1, 0, 0, 0, 0), (27, .new 23, 3, 6, 0, 0, 226), (30, .dup, 1, 0, 0, 0, 0), (31, .invokespecial 25, 3, 83, 0, 1, 228), (34, .putfield 26, 3, 7, 2, 2, 400), (37, .aload_n 0, 1, 0, 0, 0, 0), (38, .new 30, 3, 0, 0, 0, 255), (41, .dup, 1, 0, 0, 0, 0), (42, .aload_n 0, 1, 0, 0, 0, 0), (43, .getfield 10, 3, 7, 0, 0, 398), (46, .aload_n 0, 1, 0, 0, 0, 0), (47, .getfield 19, 3, 7, 1, 0, 399), (50, .aload_n 0, 1, 0, 0, 0, 0), (51, .getfield 26, 3, 7, 2, 0, 400), (54, .invokespecial 32, 3, 0, 3, 0, 257), (57, .putfield 35, 3, 7, 3, 2, 401), (60, .aload_n 0, 1, 0, 0, 0, 0), (61, .new 39, 3, 4, 0, 0, 283), (64, .dup, 1, 0, 0, 0, 0), (65, .aload_n 0, 1, 0, 0, 0, 0), (66, .getfield 10, 3, 7, 0, 0, 398), (69, .aload_n 0, 1, 0, 0, 0, 0), (70, .getfield 19, 3, 7, 1, 0, 399), (73, .aload_n 0, 1, 0, 0, 0, 0), (74, .getfield 26, 3, 7, 2, 0, 400), (77, .invokespecial 41, 3, 59, 3, 0, 285), (80, .putfield 42, 3, 7, 4, 2, 402), (83, .aload_n 0, 1, 0, 0, 0, 0), (84, .new 46, 3, 5, 0, 0, 299), (87, .dup, 1, 0, 0, 0, 0), (88, .aload_n 0, 1, 0, 0, 0, 0), (89, .getfield 10, 3, 7, 0, 0, 398), (92, .aload_n 0, 1, 0, 0, 0, 0), (93, .getfield 26, 3, 7, 2, 0, 400), (96, .invokespecial 48, 3, 70, 2, 0, 301), (99, .putfield 51, 3, 7, 5, 2, 403), (102, .aload_n 0, 1, 0, 0, 0, 0), (103, .new 55, 3, 1, 0, 0, 358), (106, .dup, 1, 0, 0, 0, 0), (107, .aload_n 0, 1, 0, 0, 0, 0), (108, .getfield 10, 3, 7, 0, 0, 398), (111, .aload_n 0, 1, 0, 0, 0, 0), (112, .getfield 19, 3, 7, 1, 0, 399), (115, .invokespecial 57, 3, 22, 2, 0, 360), (118, .putfield 60, 3, 7, 6, 2, 404), (121, .aload_n 0, 1, 0, 0, 0, 0), (122, .iconst 3, 1, 0, 0, 0, 0), (123, .anewarray 16, 3, 0, 0, 0, 189), (126, .putfield 64, 3, 7, 7, 2, 405), (129, .iconst 0, 1, 0, 0, 0, 0), (130, .istore_n 1, 1, 0, 0, 0, 0), (131, .iload_n 1, 1, 0, 0, 0, 0), (132, .iconst 3, 1, 0, 0, 0, 0), (133, .if_icmp .ge 22, 3, 155, 0, 0, 0), (136, .aload_n 0, 1, 0, 0, 0, 0), (137, .getfield 64, 3, 7, 7, 0, 405), (140, .iload_n 1, 1, 0, 0, 0, 0), (141, .new 16, 3, 3, 0, 0, 189), (144, .dup, 1, 0, 0, 0, 0), (145, .invokespecial 18, 3, 43, 0, 0, 191), (148, .aastore, 1, 0, 0, 0, 0), (149, .iinc 1 1, 3, 0, 0, 0, 0), (152, .goto (-21), 3, 131, 0, 0, 0), (155, .aload_n 0, 1, 0, 0, 0, 0), (156, .iconst 3, 1, 0, 0, 0, 0), (157, .newarray .boolean, 2, 0, 0, 0, 0), (159, .putfield 68, 3, 7, 8, 2, 406), (162, .aload_n 0, 1, 0, 0, 0, 0), (163, .iconst 0, 1, 0, 0, 0, 0), (164, .putfield 72, 3, 7, 9, 0, 407), (167, .return_, 1, 0, 0, 0, 0)]
def mm_m84 : mm_M := (⟨"LineMap", "<init>", "()V"⟩, prog_1_method_1_code, 2, none, 7, mm_k84, 94, 93, 0, 79, 2)
theorem mm_c84 : mm_mchk mm_m84 = true := by decide +kernel
/-- LineMap.station(II)I -/
def mm_k85 : List mm_E := [(0, .iload_n 1, 1, 0, 0, 0, 0), (1, .iconst 0, 1, 0, 0, 0, 0), (2, .sipush 1000, 3, 0, 0, 0, 0), (5, .invokestatic 76, 3, 110, 3, 0, 433), (8, .ifCond .eq 14, 3, 22, 0, 0, 0), (11, .iload_n 2, 1, 0, 0, 0, 0), (12, .iconst 0, 1, 0, 0, 0, 0), (13, .sipush 1000, 3, 0, 0, 0, 0), (16, .invokestatic 76, 3, 110, 3, 0, 433), (19, .ifCond .ne 9, 3, 28, 0, 0, 0), (22, .aload_n 0, 1, 0, 0, 0, 0), (23, .iconst (-1), 1, 0, 0, 0, 0), (24, .invokevirtual 80, 3, 108, 1, 7, 436), (27, .ireturn, 1, 0, 0, 0, 0), (28, .aload_n 0, 1, 0, 0, 0, 0), (29, .getfield 10, 3, 7, 0, 0, 398), (32, .iload_n 1, 1, 0, 0, 0, 0), (33, .iload_n 2, 1, 0, 0, 0, 0), (34, .invokevirtual 84, 3, 33, 2, 2, 440), (37, .ifCond .eq 10, 3, 47, 0, 0, 0), (40, .aload_n 0, 1, 0, 0, 0, 0), (41, .bipush (-4), 2, 0, 0, 0, 0), (43, .invokevirtual 80, 3, 108, 1, 7, 436), (46, .ireturn, 1, 0, 0, 0, 0), (47, .aload_n 0, 1, 0, 0, 0, 0), (48, .getfield 10, 3, 7, 0, 0, 398), (51, .getfield 88, 3, 2, 0, 0, 110), (54, .bipush 10, 2, 0, 0, 0, 0), (56, .if_icmp .lt 10, 3, 66, 0, 0, 0), (59, .aload_n 0, 1, 0, 0, 0, 0), (60, .bipush (-5), 2, 0, 0, 0, 0), (62, .invokevirtual 80, 3, 108, 1, 7, 436), (65, .ireturn, 1, 0, 0, 0, 0), (66, .aload_n 0, 1, 0, 0, 0, 0), (67, .aload_n 0, 1, 0, 0, 0, 0), (68, .getfield 10, 3, 7, 0, 0, 398), (71, .iload_n 1, 1, 0, 0, 0, 0), (72, .iload_n 2, 1, 0, 0, 0, 0), (73, .invokevirtual 91, 3, 34, 2, 2, 444), (76, .invokevirtual 95, 3, 109, 1, 7, 448), (79, .ireturn, 1, 0, 0, 0, 0)]
def mm_m85 : mm_M := (⟨"LineMap", "station", "(II)I"⟩, prog_1_method_2_code, 3, some .int, 7, mm_k85, 432, 430, 431, 79, 0)
theorem mm_c85 : mm_mchk mm_m85 = true := by decide +kernel
/-- LineMap.line()I -/
def mm_k86 : List mm_E := [(0, .aload_n 0, 1, 0, 0, 0, 0), (1, .getfield 10, 3, 7, 0, 0, 398), (4, .getfield 98, 3, 2, 1, 0, 114), (7, .bipush 6, 2, 0, 0, 0, 0), (9, .if_icmp .lt 10, 3, 19, 0, 0, 0), (12, .aload_n 0, 1, 0, 0, 0, 0), (13, .bipush (-5), 2, 0, 0, 0, 0), (15, .invokevirtual 80, 3, 108, 1, 7, 436), (18, .ireturn, 1, 0, 0, 0, 0), (19, .aload_n 0, 1, 0, 0, 0, 0), (20, .aload_n 0, 1, 0, 0, 0, 0), (21, .getfield 10, 3, 7, 0, 0, 398), (24, .invokevirtual 101, 3, 35, 0, 2, 456), (27, .invokevirtual 95, 3, 109, 1, 7, 448), (30, .ireturn, 1, 0, 0, 0, 0)]
def mm_m86 : mm_M := (⟨"LineMap", "line", "()I"⟩, prog_1_method_3_code, 1, some .int, 7, mm_k86, 455, 453, 454, 79, 0)
theorem mm_c86 : mm_mchk mm_m86 = true := by decide +kernel
/-- LineMap.lead(II)I -/
def mm_k87 : List mm_E := [(0, .aload_n 0, 1, 0, 0, 0, 0), (1, .getfield 10, 3, 7, 0, 0, 398), (4, .iload_n 1, 1, 0, 0, 0, 0), (5, .invokevirtual 105, 3, 32, 1, 2, 464), (8, .ifCond .eq 14, 3, 22, 0, 0, 0), (11, .aload_n 0, 1, 0, 0, 0, 0), (12, .getfield 10, 3, 7, 0, 0, 398), (15, .iload_n 2, 1, 0, 0, 0, 0), (16, .invokevirtual 109, 3, 31, 1, 2, 468), (19, .ifCond .ne 10, 3, 29, 0, 0, 0), (22, .aload_n 0, 1, 0, 0, 0, 0), (23, .bipush (-2), 2, 0, 0, 0, 0), (25, .invokevirtual 80, 3, 108, 1, 7, 436), (28, .ireturn, 1, 0, 0, 0, 0), (29, .aload_n 0, 1, 0, 0, 0, 0), (30, .getfield 10, 3, 7, 0, 0, 398), (33, .getfield 112, 3, 2, 7, 0, 132), (36, .iload_n 1, 1, 0, 0, 0, 0), (37, .aaload, 1, 0, 0, 0, 0), (38, .iload_n 2, 1, 0, 0, 0, 0), (39, .iaload, 1, 0, 0, 0, 0), (40, .iconst (-1), 1, 0, 0, 0, 0), (41, .if_icmp .eq 10, 3, 51, 0, 0, 0), (44, .aload_n 0, 1, 0, 0, 0, 0), (45, .bipush (-4), 2, 0, 0, 0, 0), (47, .invokevirtual 80, 3, 108, 1, 7, 436), (50, .ireturn, 1, 0, 0, 0, 0), (51, .aload_n 0, 1, 0, 0, 0, 0), (52, .getfield 10, 3, 7, 0, 0, 398), (55, .getfield 116, 3, 2, 5, 0, 127), (58, .iload_n 1, 1, 0, 0, 0, 0), (59, .iaload, 1, 0, 0, 0, 0), (60, .bipush 10, 2, 0, 0, 0, 0), (62, .if_icmp .lt 10, 3, 72, 0, 0, 0), (65, .aload_n 0, 1, 0, 0, 0, 0), (66, .bipush (-5), 2, 0, 0, 0, 0), (68, .invokevirtual 80, 3, 108, 1, 7, 436), (71, .ireturn, 1, 0, 0, 0, 0), (72, .aload_n 0, 1, 0, 0, 0, 0), (73, .aload_n 0, 1, 0, 0, 0, 0), (74, .getfield 10, 3, 7, 0, 0, 398), (77, .iload_n 1, 1, 0, 0, 0, 0), (78, .iload_n 2, 1, 0, 0, 0, 0), (79, .invokevirtual 120, 3, 36, 2, 2, 472), (82, .invokevirtual 95, 3, 109, 1, 7, 448), (85, .ireturn, 1, 0, 0, 0, 0)]
def mm_m87 : mm_M := (⟨"LineMap", "lead", "(II)I"⟩, prog_1_method_4_code, 3, some .int, 7, mm_k87, 463, 461, 462, 79, 0)
theorem mm_c87 : mm_mchk mm_m87 = true := by decide +kernel
/-- LineMap.of(II)I -/
def mm_k88 : List mm_E := [(0, .aload_n 0, 1, 0, 0, 0, 0), (1, .getfield 10, 3, 7, 0, 0, 398), (4, .iload_n 1, 1, 0, 0, 0, 0), (5, .invokevirtual 105, 3, 32, 1, 2, 464), (8, .ifCond .ne 5, 3, 13, 0, 0, 0), (11, .iconst (-1), 1, 0, 0, 0, 0), (12, .ireturn, 1, 0, 0, 0, 0), (13, .iload_n 2, 1, 0, 0, 0, 0), (14, .iconst (-1), 1, 0, 0, 0, 0), (15, .if_icmp .ne 13, 3, 28, 0, 0, 0), (18, .aload_n 0, 1, 0, 0, 0, 0), (19, .getfield 10, 3, 7, 0, 0, 398), (22, .getfield 116, 3, 2, 5, 0, 127), (25, .iload_n 1, 1, 0, 0, 0, 0), (26, .iaload, 1, 0, 0, 0, 0), (27, .ireturn, 1, 0, 0, 0, 0), (28, .iload_n 2, 1, 0, 0, 0, 0), (29, .iconst 0, 1, 0, 0, 0, 0), (30, .aload_n 0, 1, 0, 0, 0, 0), (31, .getfield 10, 3, 7, 0, 0, 398), (34, .getfield 116, 3, 2, 5, 0, 127), (37, .iload_n 1, 1, 0, 0, 0, 0), (38, .iaload, 1, 0, 0, 0, 0), (39, .iconst 1, 1, 0, 0, 0, 0), (40, .isub, 1, 0, 0, 0, 0), (41, .invokestatic 76, 3, 110, 3, 0, 433), (44, .ifCond .eq 17, 3, 61, 0, 0, 0), (47, .aload_n 0, 1, 0, 0, 0, 0), (48, .getfield 10, 3, 7, 0, 0, 398), (51, .getfield 123, 3, 2, 6, 0, 129), (54, .iload_n 1, 1, 0, 0, 0, 0), (55, .aaload, 1, 0, 0, 0, 0), (56, .iload_n 2, 1, 0, 0, 0, 0), (57, .iaload, 1, 0, 0, 0, 0), (58, .goto 4, 3, 62, 0, 0, 0), (61, .iconst (-1), 1, 0, 0, 0, 0), (62, .ireturn, 1, 0, 0, 0, 0)]
def mm_m88 : mm_M := (⟨"LineMap", "of", "(II)I"⟩, prog_1_method_5_code, 3, some .int, 7, mm_k88, 504, 502, 503, 79, 0)
theorem mm_c88 : mm_mchk mm_m88 = true := by decide +kernel
/-- LineMap.edge(II)I -/
def mm_k89 : List mm_E := [(0, .iload_n 1, 1, 0, 0, 0, 0), (1, .iconst (-1), 1, 0, 0, 0, 0), (2, .if_icmp .ne 15, 3, 17, 0, 0, 0), (5, .iload_n 2, 1, 0, 0, 0, 0), (6, .ifCond .ne 11, 3, 17, 0, 0, 0), (9, .aload_n 0, 1, 0, 0, 0, 0), (10, .getfield 10, 3, 7, 0, 0, 398), (13, .getfield 126, 3, 2, 2, 0, 118), (16, .ireturn, 1, 0, 0, 0, 0), (17, .iload_n 1, 1, 0, 0, 0, 0), (18, .iconst 0, 1, 0, 0, 0, 0), (19, .aload_n 0, 1, 0, 0, 0, 0), (20, .getfield 10, 3, 7, 0, 0, 398), (23, .getfield 126, 3, 2, 2, 0, 118), (26, .iconst 1, 1, 0, 0, 0, 0), (27, .isub, 1, 0, 0, 0, 0), (28, .invokestatic 76, 3, 110, 3, 0, 433), (31, .ifCond .ne 5, 3, 36, 0, 0, 0), (34, .iconst (-1), 1, 0, 0, 0, 0), (35, .ireturn, 1, 0, 0, 0, 0), (36, .iload_n 2, 1, 0, 0, 0, 0), (37, .tableswitch 57 0 2 #[27, 37, 47], 27, 0, 0, 0, 0), (64, .aload_n 0, 1, 0, 0, 0, 0), (65, .getfield 10, 3, 7, 0, 0, 398), (68, .getfield 129, 3, 2, 8, 0, 136), (71, .iload_n 1, 1, 0, 0, 0, 0), (72, .iaload, 1, 0, 0, 0, 0), (73, .ireturn, 1, 0, 0, 0, 0), (74, .aload_n 0, 1, 0, 0, 0, 0), (75, .getfield 10, 3, 7, 0, 0, 398), (78, .getfield 132, 3, 2, 9, 0, 141), (81, .iload_n 1, 1, 0, 0, 0, 0), (82, .iaload, 1, 0, 0, 0, 0), (83, .ireturn, 1, 0, 0, 0, 0), (84, .aload_n 0, 1, 0, 0, 0, 0), (85, .getfield 10, 3, 7, 0, 0, 398), (88, .getfield 135, 3, 2, 10, 0, 145), (91, .iload_n 1, 1, 0, 0, 0, 0), (92, .iaload, 1, 0, 0, 0, 0), (93, .ireturn, 1, 0, 0, 0, 0), (94, .iconst (-1), 1, 0, 0, 0, 0), (95, .ireturn, 1, 0, 0, 0, 0)]
def mm_m89 : mm_M := (⟨"LineMap", "edge", "(II)I"⟩, prog_1_method_6_code, 3, some .int, 7, mm_k89, 508, 506, 507, 79, 0)
theorem mm_c89 : mm_mchk mm_m89 = true := by decide +kernel
/-- LineMap.round(II)I -/
def mm_k90 : List mm_E := [(0, .aload_n 0, 1, 0, 0, 0, 0), (1, .getfield 10, 3, 7, 0, 0, 398), (4, .iload_n 1, 1, 0, 0, 0, 0), (5, .invokevirtual 109, 3, 31, 1, 2, 468), (8, .ifCond .ne 5, 3, 13, 0, 0, 0), (11, .iconst (-1), 1, 0, 0, 0, 0), (12, .ireturn, 1, 0, 0, 0, 0), (13, .iload_n 2, 1, 0, 0, 0, 0), (14, .iconst (-1), 1, 0, 0, 0, 0), (15, .if_icmp .ne 13, 3, 28, 0, 0, 0), (18, .aload_n 0, 1, 0, 0, 0, 0), (19, .getfield 10, 3, 7, 0, 0, 398), (22, .getfield 138, 3, 2, 11, 0, 149), (25, .iload_n 1, 1, 0, 0, 0, 0), (26, .iaload, 1, 0, 0, 0, 0), (27, .ireturn, 1, 0, 0, 0, 0), (28, .iload_n 2, 1, 0, 0, 0, 0), (29, .iconst 0, 1, 0, 0, 0, 0), (30, .aload_n 0, 1, 0, 0, 0, 0), (31, .getfield 10, 3, 7, 0, 0, 398), (34, .getfield 138, 3, 2, 11, 0, 149), (37, .iload_n 1, 1, 0, 0, 0, 0), (38, .iaload, 1, 0, 0, 0, 0), (39, .iconst 1, 1, 0, 0, 0, 0), (40, .isub, 1, 0, 0, 0, 0), (41, .invokestatic 76, 3, 110, 3, 0, 433), (44, .ifCond .eq 17, 3, 61, 0, 0, 0), (47, .aload_n 0, 1, 0, 0, 0, 0), (48, .getfield 10, 3, 7, 0, 0, 398), (51, .getfield 141, 3, 2, 12, 0, 154), (54, .iload_n 1, 1, 0, 0, 0, 0), (55, .aaload, 1, 0, 0, 0, 0), (56, .iload_n 2, 1, 0, 0, 0, 0), (57, .iaload, 1, 0, 0, 0, 0), (58, .goto 4, 3, 62, 0, 0, 0), (61, .iconst (-1), 1, 0, 0, 0, 0), (62, .ireturn, 1, 0, 0, 0, 0)]
def mm_m90 : mm_M := (⟨"LineMap", "round", "(II)I"⟩, prog_1_method_7_code, 3, some .int, 7, mm_k90, 512, 510, 511, 79, 0)
theorem mm_c90 : mm_mchk mm_m90 = true := by decide +kernel
/-- LineMap.grid(II)I -/
def mm_k91 : List mm_E := [(0, .iload_n 1, 1, 0, 0, 0, 0), (1, .iconst 2, 1, 0, 0, 0, 0), (2, .bipush 8, 2, 0, 0, 0, 0), (4, .invokestatic 76, 3, 110, 3, 0, 433), (7, .ifCond .eq 13, 3, 20, 0, 0, 0), (10, .iload_n 2, 1, 0, 0, 0, 0), (11, .iconst 2, 1, 0, 0, 0, 0), (12, .bipush 8, 2, 0, 0, 0, 0), (14, .invokestatic 76, 3, 110, 3, 0, 433), (17, .ifCond .ne 9, 3, 26, 0, 0, 0), (20, .aload_n 0, 1, 0, 0, 0, 0), (21, .iconst (-1), 1, 0, 0, 0, 0), (22, .invokevirtual 80, 3, 108, 1, 7, 436), (25, .ireturn, 1, 0, 0, 0, 0), (26, .aload_n 0, 1, 0, 0, 0, 0), (27, .getfield 19, 3, 7, 1, 0, 399), (30, .iload_n 1, 1, 0, 0, 0, 0), (31, .iload_n 2, 1, 0, 0, 0, 0), (32, .invokevirtual 144, 3, 44, 2, 3, 517), (35, .aload_n 0, 1, 0, 0, 0, 0), (36, .iconst 0, 1, 0, 0, 0, 0), (37, .invokevirtual 95, 3, 109, 1, 7, 448), (40, .ireturn, 1, 0, 0, 0, 0)]
def mm_m91 : mm_M := (⟨"LineMap", "grid", "(II)I"⟩, prog_1_method_8_code, 3, some .int, 7, mm_k91, 516, 514, 515, 79, 0)
theorem mm_c91 : mm_mchk mm_m91 = true := by decide +kernel
/-- LineMap.span(I)I -/
def mm_k92 : List mm_E := [(0, .iload_n 1, 1, 0, 0, 0, 0), (1, .iconst 1, 1, 0, 0, 0, 0), (2, .iconst 4, 1, 0, 0, 0, 0), (3, .invokestatic 76, 3, 110, 3, 0, 433), (6, .ifCond .ne 9, 3, 15, 0, 0, 0), (9, .aload_n 0, 1, 0, 0, 0, 0), (10, .iconst (-1), 1, 0, 0, 0, 0), (11, .invokevirtual 80, 3, 108, 1, 7, 436), (14, .ireturn, 1, 0, 0, 0, 0), (15, .aload_n 0, 1, 0, 0, 0, 0), (16, .getfield 26, 3, 7, 2, 0, 400), (19, .getfield 148, 3, 6, 3, 0, 245), (22, .istore_n 2, 1, 0, 0, 0, 0), (23, .aload_n 0, 1, 0, 0, 0, 0), (24, .getfield 26, 3, 7, 2, 0, 400), (27, .iload_n 1, 1, 0, 0, 0, 0), (28, .putfield 148, 3, 6, 3, 0, 245), (31, .aload_n 0, 1, 0, 0, 0, 0), (32, .iload_n 2, 1, 0, 0, 0, 0), (33, .invokevirtual 95, 3, 109, 1, 7, 448), (36, .ireturn, 1, 0, 0, 0, 0)]
def mm_m92 : mm_M := (⟨"LineMap", "span", "(I)I"⟩, prog_1_method_9_code, 3, some .int, 7, mm_k92, 521, 519, 520, 79, 0)
theorem mm_c92 : mm_mchk mm_m92 = true := by decide +kernel
/-- LineMap.terms(III)I -/
def mm_k93 : List mm_E := [(0, .iload_n 1, 1, 0, 0, 0, 0), (1, .invokestatic 151, 3, 111, 1, 0, 526), (4, .ifCond .eq 17, 3, 21, 0, 0, 0), (7, .iload_n 2, 1, 0, 0, 0, 0), (8, .invokestatic 151, 3, 111, 1, 0, 526), (11, .ifCond .eq 10, 3, 21, 0, 0, 0), (14, .iload_n 3, 1, 0, 0, 0, 0), (15, .invokestatic 151, 3, 111, 1, 0, 526), (18, .ifCond .ne 9, 3, 27, 0, 0, 0), (21, .aload_n 0, 1, 0, 0, 0, 0), (22, .iconst (-1), 1, 0, 0, 0, 0), (23, .invokevirtual 80, 3, 108, 1, 7, 436), (26, .ireturn, 1, 0, 0, 0, 0), (27, .aload_n 0, 1, 0, 0, 0, 0), (28, .getfield 26, 3, 7, 2, 0, 400), (31, .iload_n 1, 1, 0, 0, 0, 0), (32, .putfield 154, 3, 6, 0, 0, 234), (35, .aload_n 0, 1, 0, 0, 0, 0), (36, .getfield 26, 3, 7, 2, 0, 400), (39, .iload_n 2, 1, 0, 0, 0, 0), (40, .putfield 157, 3, 6, 1, 0, 238), (43, .aload_n 0, 1, 0, 0, 0, 0), (44, .getfield 26, 3, 7, 2, 0, 400), (47, .iload_n 3, 1, 0, 0, 0, 0), (48, .putfield 160, 3, 6, 2, 0, 241), (51, .aload_n 0, 1, 0, 0, 0, 0), (52, .iconst 0, 1, 0, 0, 0, 0), (53, .invokevirtual 95, 3, 109, 1, 7, 448), (56, .ireturn, 1, 0, 0, 0, 0)]
def mm_m93 : mm_M := (⟨"LineMap", "terms", "(III)I"⟩, prog_1_method_10_code, 4, some .int, 7, mm_k93, 525, 523, 524, 79, 0)
theorem mm_c93 : mm_mchk mm_m93 = true := by decide +kernel
/-- LineMap.place(III)I -/
def mm_k94 : List mm_E := [(0, .iload_n 2, 1, 0, 0, 0, 0), (1, .iconst 0, 1, 0, 0, 0, 0), (2, .aload_n 0, 1, 0, 0, 0, 0), (3, .getfield 19, 3, 7, 1, 0, 399), (6, .getfield 163, 3, 3, 0, 0, 201), (9, .iconst 1, 1, 0, 0, 0, 0), (10, .isub, 1, 0, 0, 0, 0), (11, .invokestatic 76, 3, 110, 3, 0, 433), (14, .ifCond .eq 20, 3, 34, 0, 0, 0), (17, .iload_n 3, 1, 0, 0, 0, 0), (18, .iconst 0, 1, 0, 0, 0, 0), (19, .aload_n 0, 1, 0, 0, 0, 0), (20, .getfield 19, 3, 7, 1, 0, 399), (23, .getfield 166, 3, 3, 1, 0, 204), (26, .iconst 1, 1, 0, 0, 0, 0), (27, .isub, 1, 0, 0, 0, 0), (28, .invokestatic 76, 3, 110, 3, 0, 433), (31, .ifCond .ne 9, 3, 40, 0, 0, 0), (34, .aload_n 0, 1, 0, 0, 0, 0), (35, .iconst (-1), 1, 0, 0, 0, 0), (36, .invokevirtual 80, 3, 108, 1, 7, 436), (39, .ireturn, 1, 0, 0, 0, 0), (40, .aload_n 0, 1, 0, 0, 0, 0), (41, .getfield 10, 3, 7, 0, 0, 398), (44, .iload_n 1, 1, 0, 0, 0, 0), (45, .invokevirtual 109, 3, 31, 1, 2, 468), (48, .ifCond .ne 10, 3, 58, 0, 0, 0), (51, .aload_n 0, 1, 0, 0, 0, 0), (52, .bipush (-2), 2, 0, 0, 0, 0), (54, .invokevirtual 80, 3, 108, 1, 7, 436), (57, .ireturn, 1, 0, 0, 0, 0), (58, .aload_n 0, 1, 0, 0, 0, 0), (59, .getfield 19, 3, 7, 1, 0, 399), (62, .getfield 169, 3, 3, 4, 0, 213), (65, .iload_n 1, 1, 0, 0, 0, 0), (66, .baload, 1, 0, 0, 0, 0), (67, .ifCond .eq 10, 3, 77, 0, 0, 0), (70, .aload_n 0, 1, 0, 0, 0, 0), (71, .bipush (-6), 2, 0, 0, 0, 0), (73, .invokevirtual 80, 3, 108, 1, 7, 436), (76, .ireturn, 1, 0, 0, 0, 0), (77, .aload_n 0, 1, 0, 0, 0, 0), (78, .getfield 19, 3, 7, 1, 0, 399), (81, .iload_n 1, 1, 0, 0, 0, 0), (82, .iload_n 3, 1, 0, 0, 0, 0), (83, .aload_n 0, 1, 0, 0, 0, 0), (84, .getfield 19, 3, 7, 1, 0, 399), (87, .getfield 163, 3, 3, 0, 0, 201), (90, .imul, 1, 0, 0, 0, 0), (91, .iload_n 2, 1, 0, 0, 0, 0), (92, .iadd, 1, 0, 0, 0, 0), (93, .invokevirtual 172, 3, 48, 2, 3, 533), (96, .aload_n 0, 1, 0, 0, 0, 0), (97, .iconst 0, 1, 0, 0, 0, 0), (98, .invokevirtual 95, 3, 109, 1, 7, 448), (101, .ireturn, 1, 0, 0, 0, 0)]
def mm_m94 : mm_M := (⟨"LineMap", "place", "(III)I"⟩, prog_1_method_11_code, 4, some .int, 7, mm_k94, 532, 530, 531, 79, 0)
theorem mm_c94 : mm_mchk mm_m94 = true := by decide +kernel
/-- LineMap.point(I)I -/
def mm_k95 : List mm_E := [(0, .aload_n 0, 1, 0, 0, 0, 0), (1, .getfield 10, 3, 7, 0, 0, 398), (4, .iload_n 1, 1, 0, 0, 0, 0), (5, .invokevirtual 109, 3, 31, 1, 2, 468), (8, .ifCond .eq 14, 3, 22, 0, 0, 0), (11, .aload_n 0, 1, 0, 0, 0, 0), (12, .getfield 19, 3, 7, 1, 0, 399), (15, .iload_n 1, 1, 0, 0, 0, 0), (16, .invokevirtual 175, 3, 47, 1, 3, 541), (19, .goto 4, 3, 23, 0, 0, 0), (22, .iconst (-1), 1, 0, 0, 0, 0), (23, .ireturn, 1, 0, 0, 0, 0)]
def mm_m95 : mm_M := (⟨"LineMap", "point", "(I)I"⟩, prog_1_method_12_code, 2, some .int, 7, mm_k95, 540, 538, 539, 79, 0)
theorem mm_c95 : mm_mchk mm_m95 = true := by decide +kernel
end
section
/-- LineMap.hold(IZ)I -/
def mm_k96 : List mm_E := [(0, .aload_n 0, 1, 0, 0, 0, 0), (1, .getfield 10, 3, 7, 0, 0, 398), (4, .iload_n 1, 1, 0, 0, 0, 0), (5, .invokevirtual 109, 3, 31, 1, 2, 468), (8, .ifCond .eq 14, 3, 22, 0, 0, 0), (11, .aload_n 0, 1, 0, 0, 0, 0), (12, .getfield 19, 3, 7, 1, 0, 399), (15, .iload_n 1, 1, 0, 0, 0, 0), (16, .invokevirtual 178, 3, 46, 1, 3, 553), (19, .ifCond .ne 10, 3, 29, 0, 0, 0), (22, .aload_n 0, 1, 0, 0, 0, 0), (23, .bipush (-2), 2, 0, 0, 0, 0), (25, .invokevirtual 80, 3, 108, 1, 7, 436), (28, .ireturn, 1, 0, 0, 0, 0), (29, .aload_n 0, 1, 0, 0, 0, 0), (30, .getfield 19, 3, 7, 1, 0, 399), (33, .getfield 169, 3, 3, 4, 0, 213), (36, .iload_n 1, 1, 0, 0, 0, 0), (37, .iload_n 2, 1, 0, 0, 0, 0), (38, .bastore, 1, 0, 0, 0, 0), (39, .aload_n 0, 1, 0, 0, 0, 0), (40, .iconst 0, 1, 0, 0, 0, 0), (41, .invokevirtual 95, 3, 109, 1, 7, 448), (44, .ireturn, 1, 0, 0, 0, 0)]
def mm_m96 : mm_M := (⟨"LineMap", "hold", "(IZ)I"⟩, prog_1_method_13_code, 3, some .int, 7, mm_k96, 552, 550, 551, 79, 0)
theorem mm_c96 : mm_mchk mm_m96 = true := by decide +kernel
/-- LineMap.why(I)I -/
def mm_k97 : List mm_E := [(0, .iload_n 1, 1, 0, 0, 0, 0), (1, .iconst 0, 1, 0, 0, 0, 0), (2, .iconst 2, 1, 0, 0, 0, 0), (3, .invokestatic 76, 3, 110, 3, 0, 433), (6, .ifCond .ne 5, 3, 11, 0, 0, 0), (9, .iconst (-1), 1, 0, 0, 0, 0), (10, .ireturn, 1, 0, 0, 0, 0), (11, .aload_n 0, 1, 0, 0, 0, 0), (12, .getfield 35, 3, 7, 3, 0, 401), (15, .invokevirtual 181, 3, 2, 0, 0, 558), (18, .iload_n 1, 1, 0, 0, 0, 0), (19, .ifCond .ne 11, 3, 30, 0, 0, 0), (22, .aload_n 0, 1, 0, 0, 0, 0), (23, .getfield 35, 3, 7, 3, 0, 401), (26, .getfield 184, 3, 0, 3, 0, 265), (29, .ireturn, 1, 0, 0, 0, 0), (30, .iload_n 1, 1, 0, 0, 0, 0), (31, .iconst 1, 1, 0, 0, 0, 0), (32, .if_icmp .ne 13, 3, 45, 0, 0, 0), (35, .aload_n 0, 1, 0, 0, 0, 0), (36, .getfield 35, 3, 7, 3, 0, 401), (39, .getfield 187, 3, 0, 4, 0, 267), (42, .goto 10, 3, 52, 0, 0, 0), (45, .aload_n 0, 1, 0, 0, 0, 0), (46, .getfield 35, 3, 7, 3, 0, 401), (49, .getfield 190, 3, 0, 5, 0, 269), (52, .ireturn, 1, 0, 0, 0, 0)]
def mm_m97 : mm_M := (⟨"LineMap", "why", "(I)I"⟩, prog_1_method_14_code, 2, some .int, 7, mm_k97, 557, 555, 556, 79, 0)
theorem mm_c97 : mm_mchk mm_m97 = true := by decide +kernel
/-- LineMap.cost(I)I -/
def mm_k98 : List mm_E := [(0, .iload_n 1, 1, 0, 0, 0, 0), (1, .iconst 0, 1, 0, 0, 0, 0), (2, .iconst 3, 1, 0, 0, 0, 0), (3, .invokestatic 76, 3, 110, 3, 0, 433), (6, .ifCond .ne 5, 3, 11, 0, 0, 0), (9, .iconst (-1), 1, 0, 0, 0, 0), (10, .ireturn, 1, 0, 0, 0, 0), (11, .aload_n 0, 1, 0, 0, 0, 0), (12, .getfield 35, 3, 7, 3, 0, 401), (15, .invokevirtual 193, 3, 1, 0, 0, 641), (18, .ifCond .ne 6, 3, 24, 0, 0, 0), (21, .bipush (-6), 2, 0, 0, 0, 0), (23, .ireturn, 1, 0, 0, 0, 0), (24, .iload_n 1, 1, 0, 0, 0, 0), (25, .tableswitch 51 1 3 #[27, 35, 43], 27, 0, 0, 0, 0), (52, .aload_n 0, 1, 0, 0, 0, 0), (53, .getfield 42, 3, 7, 4, 0, 402), (56, .invokevirtual 197, 3, 61, 0, 4, 646), (59, .ireturn, 1, 0, 0, 0, 0), (60, .aload_n 0, 1, 0, 0, 0, 0), (61, .getfield 42, 3, 7, 4, 0, 402), (64, .invokevirtual 200, 3, 62, 0, 4, 658), (67, .ireturn, 1, 0, 0, 0, 0), (68, .aload_n 0, 1, 0, 0, 0, 0), (69, .getfield 42, 3, 7, 4, 0, 402), (72, .invokevirtual 203, 3, 63, 0, 4, 663), (75, .ireturn, 1, 0, 0, 0, 0), (76, .aload_n 0, 1, 0, 0, 0, 0), (77, .getfield 42, 3, 7, 4, 0, 402), (80, .invokevirtual 206, 3, 60, 0, 4, 671), (83, .ireturn, 1, 0, 0, 0, 0)]
def mm_m98 : mm_M := (⟨"LineMap", "cost", "(I)I"⟩, prog_1_method_15_code, 2, some .int, 7, mm_k98, 640, 638, 639, 79, 0)
theorem mm_c98 : mm_mchk mm_m98 = true := by decide +kernel
/-- LineMap.best()I -/
def mm_k99 : List mm_E := [(0, .aload_n 0, 1, 0, 0, 0, 0), (1, .getfield 10, 3, 7, 0, 0, 398), (4, .getfield 88, 3, 2, 0, 0, 110), (7, .iconst 5, 1, 0, 0, 0, 0), (8, .if_icmp .gt 15, 3, 23, 0, 0, 0), (11, .aload_n 0, 1, 0, 0, 0, 0), (12, .getfield 19, 3, 7, 1, 0, 399), (15, .invokevirtual 209, 3, 45, 0, 3, 682), (18, .bipush 25, 2, 0, 0, 0, 0), (20, .if_icmp .le 10, 3, 30, 0, 0, 0), (23, .aload_n 0, 1, 0, 0, 0, 0), (24, .bipush (-5), 2, 0, 0, 0, 0), (26, .invokevirtual 80, 3, 108, 1, 7, 436), (29, .ireturn, 1, 0, 0, 0, 0), (30, .aload_n 0, 1, 0, 0, 0, 0), (31, .getfield 51, 3, 7, 5, 0, 403), (34, .aload_n 0, 1, 0, 0, 0, 0), (35, .getfield 19, 3, 7, 1, 0, 399), (38, .invokevirtual 212, 3, 71, 1, 5, 686), (41, .istore_n 1, 1, 0, 0, 0, 0), (42, .iload_n 1, 1, 0, 0, 0, 0), (43, .iconst (-1), 1, 0, 0, 0, 0), (44, .if_icmp .ne 12, 3, 56, 0, 0, 0), (47, .aload_n 0, 1, 0, 0, 0, 0), (48, .bipush (-6), 2, 0, 0, 0, 0), (50, .invokevirtual 80, 3, 108, 1, 7, 436), (53, .goto 8, 3, 61, 0, 0, 0), (56, .aload_n 0, 1, 0, 0, 0, 0), (57, .iload_n 1, 1, 0, 0, 0, 0), (58, .invokevirtual 95, 3, 109, 1, 7, 448), (61, .ireturn, 1, 0, 0, 0, 0)]
def mm_m99 : mm_M := (⟨"LineMap", "best", "()I"⟩, prog_1_method_16_code, 2, some .int, 7, mm_k99, 681, 679, 680, 79, 0)
theorem mm_c99 : mm_mchk mm_m99 = true := by decide +kernel
/-- LineMap.better()I -/
def mm_k100 : List mm_E := [(0, .aload_n 0, 1, 0, 0, 0, 0), (1, .getfield 35, 3, 7, 3, 0, 401), (4, .invokevirtual 193, 3, 1, 0, 0, 641), (7, .ifCond .ne 10, 3, 17, 0, 0, 0), (10, .aload_n 0, 1, 0, 0, 0, 0), (11, .bipush (-6), 2, 0, 0, 0, 0), (13, .invokevirtual 80, 3, 108, 1, 7, 436), (16, .ireturn, 1, 0, 0, 0, 0), (17, .iconst 0, 1, 0, 0, 0, 0), (18, .istore_n 1, 1, 0, 0, 0, 0), (19, .iload_n 1, 1, 0, 0, 0, 0), (20, .bipush 50, 2, 0, 0, 0, 0), (22, .if_icmp .ge 16, 3, 38, 0, 0, 0), (25, .aload_n 0, 1, 0, 0, 0, 0), (26, .invokevirtual 216, 3, 112, 0, 7, 781), (29, .ifCond .eq 9, 3, 38, 0, 0, 0), (32, .iinc 1 1, 3, 0, 0, 0, 0), (35, .goto (-16), 3, 19, 0, 0, 0), (38, .aload_n 0, 1, 0, 0, 0, 0), (39, .iload_n 1, 1, 0, 0, 0, 0), (40, .invokevirtual 95, 3, 109, 1, 7, 448), (43, .ireturn, 1, 0, 0, 0, 0)]
def mm_m100 : mm_M := (⟨"LineMap", "better", "()I"⟩, prog_1_method_17_code, 2, some .int, 7, mm_k100, 780, 778, 779, 79, 0)
theorem mm_c100 : mm_mchk mm_m100 = true := by decide +kernel
/-- LineMap.name(II)I -/
def mm_k101 : List mm_E := [(0, .iload_n 2, 1, 0, 0, 0, 0), (1, .iconst 0, 1, 0, 0, 0, 0), (2, .bipush 12, 2, 0, 0, 0, 0), (4, .invokestatic 76, 3, 110, 3, 0, 433), (7, .ifCond .ne 9, 3, 16, 0, 0, 0), (10, .aload_n 0, 1, 0, 0, 0, 0), (11, .iconst (-1), 1, 0, 0, 0, 0), (12, .invokevirtual 80, 3, 108, 1, 7, 436), (15, .ireturn, 1, 0, 0, 0, 0), (16, .aload_n 0, 1, 0, 0, 0, 0), (17, .getfield 10, 3, 7, 0, 0, 398), (20, .iload_n 1, 1, 0, 0, 0, 0), (21, .invokevirtual 109, 3, 31, 1, 2, 468), (24, .ifCond .ne 10, 3, 34, 0, 0, 0), (27, .aload_n 0, 1, 0, 0, 0, 0), (28, .bipush (-2), 2, 0, 0, 0, 0), (30, .invokevirtual 80, 3, 108, 1, 7, 436), (33, .ireturn, 1, 0, 0, 0, 0), (34, .aload_n 0, 1, 0, 0, 0, 0), (35, .getfield 60, 3, 7, 6, 0, 404), (38, .getfield 219, 3, 1, 2, 0, 372), (41, .iload_n 1, 1, 0, 0, 0, 0), (42, .iaload, 1, 0, 0, 0, 0), (43, .istore_n 3, 1, 0, 0, 0, 0), (44, .aload_n 0, 1, 0, 0, 0, 0), (45, .getfield 60, 3, 7, 6, 0, 404), (48, .getfield 219, 3, 1, 2, 0, 372), (51, .iload_n 1, 1, 0, 0, 0, 0), (52, .iload_n 2, 1, 0, 0, 0, 0), (53, .iastore, 1, 0, 0, 0, 0), (54, .aload_n 0, 1, 0, 0, 0, 0), (55, .iload_n 3, 1, 0, 0, 0, 0), (56, .invokevirtual 95, 3, 109, 1, 7, 448), (59, .ireturn, 1, 0, 0, 0, 0)]
def mm_m101 : mm_M := (⟨"LineMap", "name", "(II)I"⟩, prog_1_method_18_code, 4, some .int, 7, mm_k101, 815, 813, 814, 79, 0)
theorem mm_c101 : mm_mchk mm_m101 = true := by decide +kernel
/-- LineMap.put()I -/
def mm_k102 : List mm_E := [(0, .aload_n 0, 1, 0, 0, 0, 0), (1, .getfield 35, 3, 7, 3, 0, 401), (4, .invokevirtual 193, 3, 1, 0, 0, 641), (7, .ifCond .ne 10, 3, 17, 0, 0, 0), (10, .aload_n 0, 1, 0, 0, 0, 0), (11, .bipush (-6), 2, 0, 0, 0, 0), (13, .invokevirtual 80, 3, 108, 1, 7, 436), (16, .ireturn, 1, 0, 0, 0, 0), (17, .aload_n 0, 1, 0, 0, 0, 0), (18, .aload_n 0, 1, 0, 0, 0, 0), (19, .getfield 60, 3, 7, 6, 0, 404), (22, .invokevirtual 222, 3, 24, 0, 1, 820), (25, .invokevirtual 95, 3, 109, 1, 7, 448), (28, .ireturn, 1, 0, 0, 0, 0)]
def mm_m102 : mm_M := (⟨"LineMap", "put", "()I"⟩, prog_1_method_19_code, 1, some .int, 7, mm_k102, 819, 817, 818, 79, 0)
theorem mm_c102 : mm_mchk mm_m102 = true := by decide +kernel
/-- LineMap.named(II)I -/
def mm_k103 : List mm_E := [(0, .aload_n 0, 1, 0, 0, 0, 0), (1, .getfield 10, 3, 7, 0, 0, 398), (4, .iload_n 1, 1, 0, 0, 0, 0), (5, .invokevirtual 109, 3, 31, 1, 2, 468), (8, .ifCond .ne 5, 3, 13, 0, 0, 0), (11, .iconst (-1), 1, 0, 0, 0, 0), (12, .ireturn, 1, 0, 0, 0, 0), (13, .iload_n 2, 1, 0, 0, 0, 0), (14, .ifCond .ne 13, 3, 27, 0, 0, 0), (17, .aload_n 0, 1, 0, 0, 0, 0), (18, .getfield 60, 3, 7, 6, 0, 404), (21, .getfield 225, 3, 1, 3, 0, 374), (24, .iload_n 1, 1, 0, 0, 0, 0), (25, .iaload, 1, 0, 0, 0, 0), (26, .ireturn, 1, 0, 0, 0, 0), (27, .iload_n 2, 1, 0, 0, 0, 0), (28, .iconst 1, 1, 0, 0, 0, 0), (29, .if_icmp .ne 15, 3, 44, 0, 0, 0), (32, .aload_n 0, 1, 0, 0, 0, 0), (33, .getfield 60, 3, 7, 6, 0, 404), (36, .getfield 228, 3, 1, 4, 0, 376), (39, .iload_n 1, 1, 0, 0, 0, 0), (40, .iaload, 1, 0, 0, 0, 0), (41, .goto 4, 3, 45, 0, 0, 0), (44, .iconst (-1), 1, 0, 0, 0, 0), (45, .ireturn, 1, 0, 0, 0, 0)]
def mm_m103 : mm_M := (⟨"LineMap", "named", "(II)I"⟩, prog_1_method_20_code, 3, some .int, 7, mm_k103, 850, 848, 849, 79, 0)
theorem mm_c103 : mm_mchk mm_m103 = true := by decide +kernel
/-- LineMap.image(I)I -/
def mm_k104 : List mm_E := [(0, .iload_n 1, 1, 0, 0, 0, 0), (1, .iconst 0, 1, 0, 0, 0, 0), (2, .iconst 2, 1, 0, 0, 0, 0), (3, .invokestatic 76, 3, 110, 3, 0, 433), (6, .ifCond .ne 9, 3, 15, 0, 0, 0), (9, .aload_n 0, 1, 0, 0, 0, 0), (10, .iconst (-1), 1, 0, 0, 0, 0), (11, .invokevirtual 80, 3, 108, 1, 7, 436), (14, .ireturn, 1, 0, 0, 0, 0), (15, .aload_n 0, 1, 0, 0, 0, 0), (16, .getfield 64, 3, 7, 7, 0, 405), (19, .iload_n 1, 1, 0, 0, 0, 0), (20, .aaload, 1, 0, 0, 0, 0), (21, .aload_n 0, 1, 0, 0, 0, 0), (22, .getfield 19, 3, 7, 1, 0, 399), (25, .invokevirtual 231, 3, 49, 1, 3, 855), (28, .aload_n 0, 1, 0, 0, 0, 0), (29, .getfield 68, 3, 7, 8, 0, 406), (32, .iload_n 1, 1, 0, 0, 0, 0), (33, .iconst 1, 1, 0, 0, 0, 0), (34, .bastore, 1, 0, 0, 0, 0), (35, .aload_n 0, 1, 0, 0, 0, 0), (36, .iconst 0, 1, 0, 0, 0, 0), (37, .invokevirtual 95, 3, 109, 1, 7, 448), (40, .ireturn, 1, 0, 0, 0, 0)]
def mm_m104 : mm_M := (⟨"LineMap", "image", "(I)I"⟩, prog_1_method_21_code, 2, some .int, 7, mm_k104, 854, 852, 853, 79, 0)
theorem mm_c104 : mm_mchk mm_m104 = true := by decide +kernel
/-- LineMap.back(I)I -/
def mm_k105 : List mm_E := [(0, .iload_n 1, 1, 0, 0, 0, 0), (1, .iconst 0, 1, 0, 0, 0, 0), (2, .iconst 2, 1, 0, 0, 0, 0), (3, .invokestatic 76, 3, 110, 3, 0, 433), (6, .ifCond .ne 9, 3, 15, 0, 0, 0), (9, .aload_n 0, 1, 0, 0, 0, 0), (10, .iconst (-1), 1, 0, 0, 0, 0), (11, .invokevirtual 80, 3, 108, 1, 7, 436), (14, .ireturn, 1, 0, 0, 0, 0), (15, .aload_n 0, 1, 0, 0, 0, 0), (16, .getfield 68, 3, 7, 8, 0, 406), (19, .iload_n 1, 1, 0, 0, 0, 0), (20, .baload, 1, 0, 0, 0, 0), (21, .ifCond .ne 10, 3, 31, 0, 0, 0), (24, .aload_n 0, 1, 0, 0, 0, 0), (25, .bipush (-6), 2, 0, 0, 0, 0), (27, .invokevirtual 80, 3, 108, 1, 7, 436), (30, .ireturn, 1, 0, 0, 0, 0), (31, .aload_n 0, 1, 0, 0, 0, 0), (32, .getfield 19, 3, 7, 1, 0, 399), (35, .aload_n 0, 1, 0, 0, 0, 0), (36, .getfield 64, 3, 7, 7, 0, 405), (39, .iload_n 1, 1, 0, 0, 0, 0), (40, .aaload, 1, 0, 0, 0, 0), (41, .invokevirtual 231, 3, 49, 1, 3, 855), (44, .aload_n 0, 1, 0, 0, 0, 0), (45, .iconst 0, 1, 0, 0, 0, 0), (46, .invokevirtual 95, 3, 109, 1, 7, 448), (49, .ireturn, 1, 0, 0, 0, 0)]
def mm_m105 : mm_M := (⟨"LineMap", "back", "(I)I"⟩, prog_1_method_22_code, 2, some .int, 7, mm_k105, 862, 860, 861, 79, 0)
theorem mm_c105 : mm_mchk mm_m105 = true := by decide +kernel
/-- LineMap.count(I)I -/
def mm_k106 : List mm_E := [(0, .iload_n 1, 1, 0, 0, 0, 0), (1, .tableswitch 99 0 6 #[43, 51, 59, 67, 75, 83, 91], 43, 0, 0, 0, 0), (44, .aload_n 0, 1, 0, 0, 0, 0), (45, .getfield 10, 3, 7, 0, 0, 398), (48, .getfield 88, 3, 2, 0, 0, 110), (51, .ireturn, 1, 0, 0, 0, 0), (52, .aload_n 0, 1, 0, 0, 0, 0), (53, .getfield 10, 3, 7, 0, 0, 398), (56, .getfield 98, 3, 2, 1, 0, 114), (59, .ireturn, 1, 0, 0, 0, 0), (60, .aload_n 0, 1, 0, 0, 0, 0), (61, .getfield 19, 3, 7, 1, 0, 399), (64, .invokevirtual 235, 3, 50, 0, 3, 867), (67, .ireturn, 1, 0, 0, 0, 0), (68, .aload_n 0, 1, 0, 0, 0, 0), (69, .getfield 19, 3, 7, 1, 0, 399), (72, .invokevirtual 238, 3, 51, 0, 3, 871), (75, .ireturn, 1, 0, 0, 0, 0), (76, .aload_n 0, 1, 0, 0, 0, 0), (77, .getfield 19, 3, 7, 1, 0, 399), (80, .getfield 163, 3, 3, 0, 0, 201), (83, .ireturn, 1, 0, 0, 0, 0), (84, .aload_n 0, 1, 0, 0, 0, 0), (85, .getfield 19, 3, 7, 1, 0, 399), (88, .getfield 166, 3, 3, 1, 0, 204), (91, .ireturn, 1, 0, 0, 0, 0), (92, .aload_n 0, 1, 0, 0, 0, 0), (93, .getfield 26, 3, 7, 2, 0, 400), (96, .getfield 148, 3, 6, 3, 0, 245), (99, .ireturn, 1, 0, 0, 0, 0), (100, .iconst (-1), 1, 0, 0, 0, 0), (101, .ireturn, 1, 0, 0, 0, 0)]
def mm_m106 : mm_M := (⟨"LineMap", "count", "(I)I"⟩, prog_1_method_23_code, 2, some .int, 7, mm_k106, 866, 864, 865, 79, 0)
theorem mm_c106 : mm_mchk mm_m106 = true := by decide +kernel
/-- LineMap.status()I -/
def mm_k107 : List mm_E := [(0, .aload_n 0, 1, 0, 0, 0, 0), (1, .getfield 72, 3, 7, 9, 0, 407), (4, .ireturn, 1, 0, 0, 0, 0)]
def mm_m107 : mm_M := (⟨"LineMap", "status", "()I"⟩, prog_1_method_24_code, 1, some .int, 7, mm_k107, 875, 873, 874, 79, 0)
theorem mm_c107 : mm_mchk mm_m107 = true := by decide +kernel
/-- LineMap.refuse(I)I -/
def mm_k108 : List mm_E := [(0, .aload_n 0, 1, 0, 0, 0, 0), (1, .iload_n 1, 1, 0, 0, 0, 0), (2, .putfield 72, 3, 7, 9, 0, 407), (5, .iload_n 1, 1, 0, 0, 0, 0), (6, .ireturn, 1, 0, 0, 0, 0)]
def mm_m108 : mm_M := (⟨"LineMap", "refuse", "(I)I"⟩, prog_1_method_25_code, 2, some .int, 7, mm_k108, 439, 438, 1, 79, 0)
theorem mm_c108 : mm_mchk mm_m108 = true := by decide +kernel
/-- LineMap.accept(I)I -/
def mm_k109 : List mm_E := [(0, .aload_n 0, 1, 0, 0, 0, 0), (1, .iconst 0, 1, 0, 0, 0, 0), (2, .putfield 72, 3, 7, 9, 0, 407), (5, .iload_n 1, 1, 0, 0, 0, 0), (6, .ireturn, 1, 0, 0, 0, 0)]
def mm_m109 : mm_M := (⟨"LineMap", "accept", "(I)I"⟩, prog_1_method_26_code, 2, some .int, 7, mm_k109, 451, 450, 2, 79, 0)
theorem mm_c109 : mm_mchk mm_m109 = true := by decide +kernel
/-- LineMap.isWithin(III)Z -/
def mm_k110 : List mm_E := [(0, .iload_n 0, 1, 0, 0, 0, 0), (1, .iload_n 1, 1, 0, 0, 0, 0), (2, .if_icmp .lt 12, 3, 14, 0, 0, 0), (5, .iload_n 0, 1, 0, 0, 0, 0), (6, .iload_n 2, 1, 0, 0, 0, 0), (7, .if_icmp .gt 7, 3, 14, 0, 0, 0), (10, .iconst 1, 1, 0, 0, 0, 0), (11, .goto 4, 3, 15, 0, 0, 0), (14, .iconst 0, 1, 0, 0, 0, 0), (15, .ireturn, 1, 0, 0, 0, 0)]
def mm_m110 : mm_M := (⟨"LineMap", "isWithin", "(III)Z"⟩, prog_1_method_27_code, 3, some .boolean, 7, mm_k110, 435, 434, 0, 79, 1)
theorem mm_c110 : mm_mchk mm_m110 = true := by decide +kernel
/-- LineMap.isWeight(I)Z -/
def mm_k111 : List mm_E := [(0, .iload_n 0, 1, 0, 0, 0, 0), (1, .iconst 0, 1, 0, 0, 0, 0), (2, .bipush 100, 2, 0, 0, 0, 0), (4, .invokestatic 76, 3, 110, 3, 0, 433), (7, .ireturn, 1, 0, 0, 0, 0)]
def mm_m111 : mm_M := (⟨"LineMap", "isWeight", "(I)Z"⟩, prog_1_method_28_code, 1, some .boolean, 7, mm_k111, 528, 527, 0, 79, 1)
theorem mm_c111 : mm_mchk mm_m111 = true := by decide +kernel
/-- LineMap.makeBestChange()Z -/
def mm_k112 : List mm_E := [(0, .iconst 0, 1, 0, 0, 0, 0), (1, .istore_n 1, 1, 0, 0, 0, 0), (2, .iconst (-1), 1, 0, 0, 0, 0), (3, .istore_n 2, 1, 0, 0, 0, 0), (4, .iconst (-1), 1, 0, 0, 0, 0), (5, .istore_n 3, 1, 0, 0, 0, 0), (6, .iconst 0, 1, 0, 0, 0, 0), (7, .istore 4, 2, 0, 0, 0, 0), (9, .iload 4, 2, 0, 0, 0, 0), (11, .aload_n 0, 1, 0, 0, 0, 0), (12, .getfield 10, 3, 7, 0, 0, 398), (15, .getfield 88, 3, 2, 0, 0, 110), (18, .if_icmp .ge 160, 3, 178, 0, 0, 0), (21, .aload_n 0, 1, 0, 0, 0, 0), (22, .getfield 19, 3, 7, 1, 0, 399), (25, .getfield 169, 3, 3, 4, 0, 213), (28, .iload 4, 2, 0, 0, 0, 0), (30, .baload, 1, 0, 0, 0, 0), (31, .ifCond .ne 141, 3, 172, 0, 0, 0), (34, .aload_n 0, 1, 0, 0, 0, 0), (35, .getfield 10, 3, 7, 0, 0, 398), (38, .getfield 138, 3, 2, 11, 0, 149), (41, .iload 4, 2, 0, 0, 0, 0), (43, .iaload, 1, 0, 0, 0, 0), (44, .ifCond .ne 6, 3, 50, 0, 0, 0), (47, .goto 125, 3, 172, 0, 0, 0), (50, .aload_n 0, 1, 0, 0, 0, 0), (51, .getfield 19, 3, 7, 1, 0, 399), (54, .iload 4, 2, 0, 0, 0, 0), (56, .invokevirtual 175, 3, 47, 1, 3, 541), (59, .istore 5, 2, 0, 0, 0, 0), (61, .aload_n 0, 1, 0, 0, 0, 0), (62, .getfield 42, 3, 7, 4, 0, 402), (65, .iload 4, 2, 0, 0, 0, 0), (67, .invokevirtual 241, 3, 67, 1, 4, 785), (70, .istore 6, 2, 0, 0, 0, 0), (72, .iconst 0, 1, 0, 0, 0, 0), (73, .istore 7, 2, 0, 0, 0, 0), (75, .iload 7, 2, 0, 0, 0, 0), (77, .aload_n 0, 1, 0, 0, 0, 0), (78, .getfield 19, 3, 7, 1, 0, 399), (81, .invokevirtual 209, 3, 45, 0, 3, 682), (84, .if_icmp .ge 77, 3, 161, 0, 0, 0), (87, .aload_n 0, 1, 0, 0, 0, 0), (88, .getfield 19, 3, 7, 1, 0, 399), (91, .iload 4, 2, 0, 0, 0, 0), (93, .iload 7, 2, 0, 0, 0, 0), (95, .invokevirtual 172, 3, 48, 2, 3, 533), (98, .aload_n 0, 1, 0, 0, 0, 0), (99, .getfield 35, 3, 7, 3, 0, 401), (102, .iload 4, 2, 0, 0, 0, 0), (104, .invokevirtual 244, 3, 13, 1, 0, 786), (107, .ifCond .eq 18, 3, 125, 0, 0, 0), (110, .iload 6, 2, 0, 0, 0, 0), (112, .aload_n 0, 1, 0, 0, 0, 0), (113, .getfield 42, 3, 7, 4, 0, 402), (116, .iload 4, 2, 0, 0, 0, 0), (118, .invokevirtual 241, 3, 67, 1, 4, 785), (121, .isub, 1, 0, 0, 0, 0), (122, .goto 4, 3, 126, 0, 0, 0), (125, .iconst 0, 1, 0, 0, 0, 0), (126, .istore 8, 2, 0, 0, 0, 0), (128, .iload 8, 2, 0, 0, 0, 0), (130, .iload_n 1, 1, 0, 0, 0, 0), (131, .if_icmp .le 24, 3, 155, 0, 0, 0), (134, .aload_n 0, 1, 0, 0, 0, 0), (135, .getfield 35, 3, 7, 3, 0, 401), (138, .iload 4, 2, 0, 0, 0, 0), (140, .invokevirtual 247, 3, 14, 1, 0, 790), (143, .ifCond .eq 12, 3, 155, 0, 0, 0), (146, .iload 8, 2, 0, 0, 0, 0), (148, .istore_n 1, 1, 0, 0, 0, 0), (149, .iload 4, 2, 0, 0, 0, 0), (151, .istore_n 2, 1, 0, 0, 0, 0), (152, .iload 7, 2, 0, 0, 0, 0), (154, .istore_n 3, 1, 0, 0, 0, 0), (155, .iinc 7 1, 3, 0, 0, 0, 0), (158, .goto (-83), 3, 75, 0, 0, 0), (161, .aload_n 0, 1, 0, 0, 0, 0), (162, .getfield 19, 3, 7, 1, 0, 399), (165, .iload 4, 2, 0, 0, 0, 0), (167, .iload 5, 2, 0, 0, 0, 0), (169, .invokevirtual 172, 3, 48, 2, 3, 533), (172, .iinc 4 1, 3, 0, 0, 0, 0), (175, .goto (-166), 3, 9, 0, 0, 0), (178, .iload_n 2, 1, 0, 0, 0, 0), (179, .iconst (-1), 1, 0, 0, 0, 0), (180, .if_icmp .ne 5, 3, 185, 0, 0, 0), (183, .iconst 0, 1, 0, 0, 0, 0), (184, .ireturn, 1, 0, 0, 0, 0), (185, .aload_n 0, 1, 0, 0, 0, 0), (186, .getfield 19, 3, 7, 1, 0, 399), (189, .iload_n 2, 1, 0, 0, 0, 0), (190, .iload_n 3, 1, 0, 0, 0, 0), (191, .invokevirtual 172, 3, 48, 2, 3, 533), (194, .iconst 1, 1, 0, 0, 0, 0), (195, .ireturn, 1, 0, 0, 0, 0)]
def mm_m112 : mm_M := (⟨"LineMap", "makeBestChange", "()Z"⟩, prog_1_method_29_code, 9, some .boolean, 7, mm_k112, 784, 783, 34, 79, 0)
theorem mm_c112 : mm_mchk mm_m112 = true := by decide +kernel
/-- LineMapModel.<init>()V -/
def mm_k113 : List mm_E := [(0, .aload_n 0, 1, 0, 0, 0, 0), (1, .invokespecial 1, 3, 0, 0, 2, 881), (4, .aload_n 0, 1, 0, 0, 0, 0), (5, .bipush 10, 2, 0, 0, 0, 0), (7, .newarray .int, 2, 0, 0, 0, 0), (9, .putfield 7, 3, 8, 4, 2, 886), (12, .aload_n 0, 1, 0, 0, 0, 0), (13, .bipush 10, 2, 0, 0, 0, 0), (15, .newarray .int, 2, 0, 0, 0, 0), (17, .putfield 13, 3, 8, 5, 2, 887), (20, .aload_n 0, 1, 0, 0, 0, 0), (21, .bipush 6, 2, 0, 0, 0, 0), (23, .newarray .int, 2, 0, 0, 0, 0), (25, .putfield 16, 3, 8, 6, 2, 888), (28, .aload_n 0, 1, 0, 0, 0, 0), (29, .bipush 60, 2, 0, 0, 0, 0), (31, .newarray .int, 2, 0, 0, 0, 0), (33, .putfield 19, 3, 8, 7, 2, 889), (36, .aload_n 0, 1, 0, 0, 0, 0), (37, .bipush 45, 2, 0, 0, 0, 0), (39, .newarray .int, 2, 0, 0, 0, 0), (41, .putfield 22, 3, 8, 8, 2, 890), (44, .aload_n 0, 1, 0, 0, 0, 0), (45, .bipush 45, 2, 0, 0, 0, 0), (47, .newarray .int, 2, 0, 0, 0, 0), (49, .putfield 25, 3, 8, 9, 2, 891), (52, .aload_n 0, 1, 0, 0, 0, 0), (53, .bipush 10, 2, 0, 0, 0, 0), (55, .newarray .int, 2, 0, 0, 0, 0), (57, .putfield 28, 3, 8, 10, 2, 892), (60, .aload_n 0, 1, 0, 0, 0, 0), (61, .iconst 5, 1, 0, 0, 0, 0), (62, .putfield 31, 3, 8, 12, 0, 894), (65, .aload_n 0, 1, 0, 0, 0, 0), (66, .iconst 5, 1, 0, 0, 0, 0), (67, .putfield 35, 3, 8, 13, 0, 895), (70, .aload_n 0, 1, 0, 0, 0, 0), (71, .iconst 1, 1, 0, 0, 0, 0), (72, .putfield 38, 3, 8, 14, 0, 896), (75, .aload_n 0, 1, 0, 0, 0, 0), (76, .bipush 10, 2, 0, 0, 0, 0), (78, .putfield 41, 3, 8, 15, 0, 897), (81, .aload_n 0, 1, 0, 0, 0, 0), (82, .iconst 1, 1, 0, 0, 0, 0), (83, .putfield 44, 3, 8, 16, 0, 898), (86, .aload_n 0, 1, 0, 0, 0, 0), (87, .iconst 3, 1, 0, 0, 0, 0), (88, .putfield 47, 3, 8, 17, 0, 899), (91, .aload_n 0, 1, 0, 0, 0, 0), (92, .bipush 10, 2, 0, 0, 0, 0), (94, .newarray .int, 2, 0, 0, 0, 0), (96, .putfield 50, 3, 8, 18, 2, 900), (99, .aload_n 0, 1, 0, 0, 0, 0), (100, .bipush 10, 2, 0, 0, 0, 0), (102, .newarray .boolean, 2, 0, 0, 0, 0), (104, .putfield 53, 3, 8, 19, 2, 901), (107, .aload_n 0, 1, 0, 0, 0, 0), (108, .bipush 10, 2, 0, 0, 0, 0), (110, .newarray .int, 2, 0, 0, 0, 0), (112, .putfield 57, 3, 8, 20, 2, 902), (115, .aload_n 0, 1, 0, 0, 0, 0), (116, .bipush 10, 2, 0, 0, 0, 0), (118, .newarray .int, 2, 0, 0, 0, 0), (120, .putfield 60, 3, 8, 23, 2, 905), (123, .aload_n 0, 1, 0, 0, 0, 0), (124, .bipush 10, 2, 0, 0, 0, 0), (126, .newarray .int, 2, 0, 0, 0, 0), (128, .putfield 63, 3, 8, 24, 2, 906), (131, .aload_n 0, 1, 0, 0, 0, 0), (132, .bipush 10, 2, 0, 0, 0, 0), (134, .newarray .boolean, 2, 0, 0, 0, 0), (136, .putfield 66, 3, 8, 25, 2, 907), (139, .aload_n 0, 1, 0, 0, 0, 0), (140, .bipush 10, 2, 0, 0, 0, 0), (142, .newarray .int, 2, 0, 0, 0, 0), (144, .putfield 69, 3, 8, 27, 2, 909), (147, .aload_n 0, 1, 0, 0, 0, 0), (148, .bipush 10, 2, 0, 0, 0, 0), (150, .newarray .int, 2, 0, 0, 0, 0), (152, .putfield 72, 3, 8, 28, 2, 910), (155, .aload_n 0, 1, 0, 0, 0, 0), (156, .bipush 10, 2, 0, 0, 0, 0), (158, .newarray .int, 2, 0, 0, 0, 0), (160, .putfield 75, 3, 8, 29, 2, 911), (163, .aload_n 0, 1, 0, 0, 0, 0), (164, .iconst 3, 1, 0, 0, 0, 0), (165, .newarray .boolean, 2, 0, 0, 0, 0), (167, .putfield 78, 3, 8, 30, 2, 912), (170, .aload_n 0, 1, 0, 0, 0, 0), (171, .bipush 69, 2, 0, 0, 0, 0), (173, .newarray .int, 2, 0, 0, 0, 0), (175, .putfield 81, 3, 8, 31, 2, 913), (178, .return_, 1, 0, 0, 0, 0)]
def mm_m113 : mm_M := (⟨"LineMapModel", "<init>", "()V"⟩, prog_10_method_1_code, 1, none, 8, mm_k113, 880, 879, 0, 88, 2)
theorem mm_c113 : mm_mchk mm_m113 = true := by decide +kernel
/-- LineMapModel.in(III)Z -/
def mm_k114 : List mm_E := [(0, .iload_n 0, 1, 0, 0, 0, 0), (1, .iload_n 1, 1, 0, 0, 0, 0), (2, .if_icmp .lt 12, 3, 14, 0, 0, 0), (5, .iload_n 0, 1, 0, 0, 0, 0), (6, .iload_n 2, 1, 0, 0, 0, 0), (7, .if_icmp .gt 7, 3, 14, 0, 0, 0), (10, .iconst 1, 1, 0, 0, 0, 0), (11, .goto 4, 3, 15, 0, 0, 0), (14, .iconst 0, 1, 0, 0, 0, 0), (15, .ireturn, 1, 0, 0, 0, 0)]
def mm_m114 : mm_M := (⟨"LineMapModel", "in", "(III)Z"⟩, prog_10_method_2_code, 3, some .boolean, 8, mm_k114, 985, 984, 0, 88, 1)
theorem mm_c114 : mm_mchk mm_m114 = true := by decide +kernel
/-- LineMapModel.ends(I)I -/
def mm_k115 : List mm_E := [(0, .aload_n 0, 1, 0, 0, 0, 0), (1, .iload_n 1, 1, 0, 0, 0, 0), (2, .ifCond .ge 7, 3, 9, 0, 0, 0), (5, .iload_n 1, 1, 0, 0, 0, 0), (6, .goto 4, 3, 10, 0, 0, 0), (9, .iconst 0, 1, 0, 0, 0, 0), (10, .putfield 84, 3, 8, 0, 0, 882), (13, .iload_n 1, 1, 0, 0, 0, 0), (14, .ireturn, 1, 0, 0, 0, 0)]
def mm_m115 : mm_M := (⟨"LineMapModel", "ends", "(I)I"⟩, prog_10_method_3_code, 2, some .int, 8, mm_k115, 989, 988, 44, 88, 0)
theorem mm_c115 : mm_mchk mm_m115 = true := by decide +kernel
/-- LineMapModel.isStation(I)Z -/
def mm_k116 : List mm_E := [(0, .iload_n 1, 1, 0, 0, 0, 0), (1, .iconst 0, 1, 0, 0, 0, 0), (2, .aload_n 0, 1, 0, 0, 0, 0), (3, .getfield 87, 3, 8, 1, 0, 883), (6, .iconst 1, 1, 0, 0, 0, 0), (7, .isub, 1, 0, 0, 0, 0), (8, .invokestatic 90, 3, 114, 3, 0, 983), (11, .ireturn, 1, 0, 0, 0, 0)]
def mm_m116 : mm_M := (⟨"LineMapModel", "isStation", "(I)Z"⟩, prog_10_method_4_code, 2, some .boolean, 8, mm_k116, 1001, 1000, 45, 88, 0)
theorem mm_c116 : mm_mchk mm_m116 = true := by decide +kernel
/-- LineMapModel.station(II)I -/
def mm_k117 : List mm_E := [(0, .iload_n 1, 1, 0, 0, 0, 0), (1, .iconst 0, 1, 0, 0, 0, 0), (2, .sipush 1000, 3, 0, 0, 0, 0), (5, .invokestatic 90, 3, 114, 3, 0, 983), (8, .ifCond .eq 14, 3, 22, 0, 0, 0), (11, .iload_n 2, 1, 0, 0, 0, 0), (12, .iconst 0, 1, 0, 0, 0, 0), (13, .sipush 1000, 3, 0, 0, 0, 0), (16, .invokestatic 90, 3, 114, 3, 0, 983), (19, .ifCond .ne 9, 3, 28, 0, 0, 0), (22, .aload_n 0, 1, 0, 0, 0, 0), (23, .iconst (-1), 1, 0, 0, 0, 0), (24, .invokevirtual 94, 3, 115, 1, 8, 986), (27, .ireturn, 1, 0, 0, 0, 0), (28, .iconst 0, 1, 0, 0, 0, 0), (29, .istore_n 3, 1, 0, 0, 0, 0), (30, .iload_n 3, 1, 0, 0, 0, 0), (31, .aload_n 0, 1, 0, 0, 0, 0), (32, .getfield 87, 3, 8, 1, 0, 883), (35, .if_icmp .ge 36, 3, 71, 0, 0, 0), (38, .aload_n 0, 1, 0, 0, 0, 0), (39, .getfield 7, 3, 8, 4, 0, 886), (42, .iload_n 3, 1, 0, 0, 0, 0), (43, .iaload, 1, 0, 0, 0, 0), (44, .iload_n 1, 1, 0, 0, 0, 0), (45, .if_icmp .ne 20, 3, 65, 0, 0, 0), (48, .aload_n 0, 1, 0, 0, 0, 0), (49, .getfield 13, 3, 8, 5, 0, 887), (52, .iload_n 3, 1, 0, 0, 0, 0), (53, .iaload, 1, 0, 0, 0, 0), (54, .iload_n 2, 1, 0, 0, 0, 0), (55, .if_icmp .ne 10, 3, 65, 0, 0, 0), (58, .aload_n 0, 1, 0, 0, 0, 0), (59, .bipush (-4), 2, 0, 0, 0, 0), (61, .invokevirtual 94, 3, 115, 1, 8, 986), (64, .ireturn, 1, 0, 0, 0, 0), (65, .iinc 3 1, 3, 0, 0, 0, 0), (68, .goto (-38), 3, 30, 0, 0, 0), (71, .aload_n 0, 1, 0, 0, 0, 0), (72, .getfield 87, 3, 8, 1, 0, 883), (75, .bipush 10, 2, 0, 0, 0, 0), (77, .if_icmp .ne 10, 3, 87, 0, 0, 0), (80, .aload_n 0, 1, 0, 0, 0, 0), (81, .bipush (-5), 2, 0, 0, 0, 0), (83, .invokevirtual 94, 3, 115, 1, 8, 986), (86, .ireturn, 1, 0, 0, 0, 0), (87, .aload_n 0, 1, 0, 0, 0, 0), (88, .getfield 7, 3, 8, 4, 0, 886), (91, .aload_n 0, 1, 0, 0, 0, 0), (92, .getfield 87, 3, 8, 1, 0, 883), (95, .iload_n 1, 1, 0, 0, 0, 0), (96, .iastore, 1, 0, 0, 0, 0), (97, .aload_n 0, 1, 0, 0, 0, 0), (98, .getfield 13, 3, 8, 5, 0, 887), (101, .aload_n 0, 1, 0, 0, 0, 0), (102, .getfield 87, 3, 8, 1, 0, 883), (105, .iload_n 2, 1, 0, 0, 0, 0), (106, .iastore, 1, 0, 0, 0, 0), (107, .aload_n 0, 1, 0, 0, 0, 0), (108, .getfield 50, 3, 8, 18, 0, 900), (111, .aload_n 0, 1, 0, 0, 0, 0), (112, .getfield 87, 3, 8, 1, 0, 883), (115, .iconst (-1), 1, 0, 0, 0, 0), (116, .iastore, 1, 0, 0, 0, 0), (117, .aload_n 0, 1, 0, 0, 0, 0), (118, .getfield 53, 3, 8, 19, 0, 901), (121, .aload_n 0, 1, 0, 0, 0, 0), (122, .getfield 87, 3, 8, 1, 0, 883), (125, .iconst 0, 1, 0, 0, 0, 0), (126, .bastore, 1, 0, 0, 0, 0), (127, .aload_n 0, 1, 0, 0, 0, 0), (128, .getfield 57, 3, 8, 20, 0, 902), (131, .aload_n 0, 1, 0, 0, 0, 0), (132, .getfield 87, 3, 8, 1, 0, 883), (135, .iconst 0, 1, 0, 0, 0, 0), (136, .iastore, 1, 0, 0, 0, 0), (137, .aload_n 0, 1, 0, 0, 0, 0), (138, .dup, 1, 0, 0, 0, 0), (139, .getfield 87, 3, 8, 1, 0, 883), (142, .iconst 1, 1, 0, 0, 0, 0), (143, .iadd, 1, 0, 0, 0, 0), (144, .putfield 87, 3, 8, 1, 0, 883), (147, .aload_n 0, 1, 0, 0, 0, 0), (148, .aload_n 0, 1, 0, 0, 0, 0), (149, .getfield 87, 3, 8, 1, 0, 883), (152, .iconst 1, 1, 0, 0, 0, 0), (153, .isub, 1, 0, 0, 0, 0), (154, .invokevirtual 94, 3, 115, 1, 8, 986), (157, .ireturn, 1, 0, 0, 0, 0)]
def mm_m117 : mm_M := (⟨"LineMapModel", "station", "(II)I"⟩, prog_10_method_5_code, 4, some .int, 8, mm_k117, 982, 980, 981, 88, 0)
theorem mm_c117 : mm_mchk mm_m117 = true := by decide +kernel
/-- LineMapModel.line()I -/
def mm_k118 : List mm_E := [(0, .aload_n 0, 1, 0, 0, 0, 0), (1, .getfield 98, 3, 8, 2, 0, 884), (4, .bipush 6, 2, 0, 0, 0, 0), (6, .if_icmp .ne 10, 3, 16, 0, 0, 0), (9, .aload_n 0, 1, 0, 0, 0, 0), (10, .bipush (-5), 2, 0, 0, 0, 0), (12, .invokevirtual 94, 3, 115, 1, 8, 986), (15, .ireturn, 1, 0, 0, 0, 0), (16, .aload_n 0, 1, 0, 0, 0, 0), (17, .getfield 16, 3, 8, 6, 0, 888), (20, .aload_n 0, 1, 0, 0, 0, 0), (21, .getfield 98, 3, 8, 2, 0, 884), (24, .iconst 0, 1, 0, 0, 0, 0), (25, .iastore, 1, 0, 0, 0, 0), (26, .aload_n 0, 1, 0, 0, 0, 0), (27, .dup, 1, 0, 0, 0, 0), (28, .getfield 98, 3, 8, 2, 0, 884), (31, .iconst 1, 1, 0, 0, 0, 0), (32, .iadd, 1, 0, 0, 0, 0), (33, .putfield 98, 3, 8, 2, 0, 884), (36, .aload_n 0, 1, 0, 0, 0, 0), (37, .aload_n 0, 1, 0, 0, 0, 0), (38, .getfield 98, 3, 8, 2, 0, 884), (41, .iconst 1, 1, 0, 0, 0, 0), (42, .isub, 1, 0, 0, 0, 0), (43, .invokevirtual 94, 3, 115, 1, 8, 986), (46, .ireturn, 1, 0, 0, 0, 0)]
def mm_m118 : mm_M := (⟨"LineMapModel", "line", "()I"⟩, prog_10_method_6_code, 1, some .int, 8, mm_k118, 993, 991, 992, 88, 0)
theorem mm_c118 : mm_mchk mm_m118 = true := by decide +kernel
/-- LineMapModel.lead(II)I -/
def mm_k119 : List mm_E := [(0, .iload_n 1, 1, 0, 0, 0, 0), (1, .iconst 0, 1, 0, 0, 0, 0), (2, .aload_n 0, 1, 0, 0, 0, 0), (3, .getfield 98, 3, 8, 2, 0, 884), (6, .iconst 1, 1, 0, 0, 0, 0), (7, .isub, 1, 0, 0, 0, 0), (8, .invokestatic 90, 3, 114, 3, 0, 983), (11, .ifCond .eq 11, 3, 22, 0, 0, 0), (14, .aload_n 0, 1, 0, 0, 0, 0), (15, .iload_n 2, 1, 0, 0, 0, 0), (16, .invokevirtual 101, 3, 116, 1, 8, 998), (19, .ifCond .ne 10, 3, 29, 0, 0, 0), (22, .aload_n 0, 1, 0, 0, 0, 0), (23, .bipush (-2), 2, 0, 0, 0, 0), (25, .invokevirtual 94, 3, 115, 1, 8, 986), (28, .ireturn, 1, 0, 0, 0, 0), (29, .iconst 0, 1, 0, 0, 0, 0), (30, .istore_n 3, 1, 0, 0, 0, 0), (31, .iload_n 3, 1, 0, 0, 0, 0), (32, .aload_n 0, 1, 0, 0, 0, 0), (33, .getfield 16, 3, 8, 6, 0, 888), (36, .iload_n 1, 1, 0, 0, 0, 0), (37, .iaload, 1, 0, 0, 0, 0), (38, .if_icmp .ge 31, 3, 69, 0, 0, 0), (41, .aload_n 0, 1, 0, 0, 0, 0), (42, .getfield 19, 3, 8, 7, 0, 889), (45, .bipush 10, 2, 0, 0, 0, 0), (47, .iload_n 1, 1, 0, 0, 0, 0), (48, .imul, 1, 0, 0, 0, 0), (49, .iload_n 3, 1, 0, 0, 0, 0), (50, .iadd, 1, 0, 0, 0, 0), (51, .iaload, 1, 0, 0, 0, 0), (52, .iload_n 2, 1, 0, 0, 0, 0), (53, .if_icmp .ne 10, 3, 63, 0, 0, 0), (56, .aload_n 0, 1, 0, 0, 0, 0), (57, .bipush (-4), 2, 0, 0, 0, 0), (59, .invokevirtual 94, 3, 115, 1, 8, 986), (62, .ireturn, 1, 0, 0, 0, 0), (63, .iinc 3 1, 3, 0, 0, 0, 0), (66, .goto (-35), 3, 31, 0, 0, 0), (69, .aload_n 0, 1, 0, 0, 0, 0), (70, .getfield 16, 3, 8, 6, 0, 888), (73, .iload_n 1, 1, 0, 0, 0, 0), (74, .iaload, 1, 0, 0, 0, 0), (75, .bipush 10, 2, 0, 0, 0, 0), (77, .if_icmp .ne 10, 3, 87, 0, 0, 0), (80, .aload_n 0, 1, 0, 0, 0, 0), (81, .bipush (-5), 2, 0, 0, 0, 0), (83, .invokevirtual 94, 3, 115, 1, 8, 986), (86, .ireturn, 1, 0, 0, 0, 0), (87, .aload_n 0, 1, 0, 0, 0, 0), (88, .getfield 19, 3, 8, 7, 0, 889), (91, .bipush 10, 2, 0, 0, 0, 0), (93, .iload_n 1, 1, 0, 0, 0, 0), (94, .imul, 1, 0, 0, 0, 0), (95, .aload_n 0, 1, 0, 0, 0, 0), (96, .getfield 16, 3, 8, 6, 0, 888), (99, .iload_n 1, 1, 0, 0, 0, 0), (100, .iaload, 1, 0, 0, 0, 0), (101, .iadd, 1, 0, 0, 0, 0), (102, .iload_n 2, 1, 0, 0, 0, 0), (103, .iastore, 1, 0, 0, 0, 0), (104, .aload_n 0, 1, 0, 0, 0, 0), (105, .getfield 16, 3, 8, 6, 0, 888), (108, .iload_n 1, 1, 0, 0, 0, 0), (109, .dup2, 1, 0, 0, 0, 0), (110, .iaload, 1, 0, 0, 0, 0), (111, .iconst 1, 1, 0, 0, 0, 0), (112, .iadd, 1, 0, 0, 0, 0), (113, .iastore, 1, 0, 0, 0, 0), (114, .aload_n 0, 1, 0, 0, 0, 0), (115, .invokevirtual 105, 3, 122, 0, 8, 1002), (118, .aload_n 0, 1, 0, 0, 0, 0), (119, .aload_n 0, 1, 0, 0, 0, 0), (120, .getfield 16, 3, 8, 6, 0, 888), (123, .iload_n 1, 1, 0, 0, 0, 0), (124, .iaload, 1, 0, 0, 0, 0), (125, .invokevirtual 94, 3, 115, 1, 8, 986), (128, .ireturn, 1, 0, 0, 0, 0)]
def mm_m119 : mm_M := (⟨"LineMapModel", "lead", "(II)I"⟩, prog_10_method_7_code, 4, some .int, 8, mm_k119, 997, 995, 996, 88, 0)
theorem mm_c119 : mm_mchk mm_m119 = true := by decide +kernel
/-- LineMapModel.of(II)I -/
def mm_k120 : List mm_E := [(0, .iload_n 1, 1, 0, 0, 0, 0), (1, .iconst 0, 1, 0, 0, 0, 0), (2, .aload_n 0, 1, 0, 0, 0, 0), (3, .getfield 98, 3, 8, 2, 0, 884), (6, .iconst 1, 1, 0, 0, 0, 0), (7, .isub, 1, 0, 0, 0, 0), (8, .invokestatic 90, 3, 114, 3, 0, 983), (11, .ifCond .eq 19, 3, 30, 0, 0, 0), (14, .iload_n 2, 1, 0, 0, 0, 0), (15, .iconst (-1), 1, 0, 0, 0, 0), (16, .aload_n 0, 1, 0, 0, 0, 0), (17, .getfield 16, 3, 8, 6, 0, 888), (20, .iload_n 1, 1, 0, 0, 0, 0), (21, .iaload, 1, 0, 0, 0, 0), (22, .iconst 1, 1, 0, 0, 0, 0), (23, .isub, 1, 0, 0, 0, 0), (24, .invokestatic 90, 3, 114, 3, 0, 983), (27, .ifCond .ne 5, 3, 32, 0, 0, 0), (30, .iconst (-1), 1, 0, 0, 0, 0), (31, .ireturn, 1, 0, 0, 0, 0), (32, .iload_n 2, 1, 0, 0, 0, 0), (33, .iconst (-1), 1, 0, 0, 0, 0), (34, .if_icmp .ne 12, 3, 46, 0, 0, 0), (37, .aload_n 0, 1, 0, 0, 0, 0), (38, .getfield 16, 3, 8, 6, 0, 888), (41, .iload_n 1, 1, 0, 0, 0, 0), (42, .iaload, 1, 0, 0, 0, 0), (43, .goto 14, 3, 57, 0, 0, 0), (46, .aload_n 0, 1, 0, 0, 0, 0), (47, .getfield 19, 3, 8, 7, 0, 889), (50, .bipush 10, 2, 0, 0, 0, 0), (52, .iload_n 1, 1, 0, 0, 0, 0), (53, .imul, 1, 0, 0, 0, 0), (54, .iload_n 2, 1, 0, 0, 0, 0), (55, .iadd, 1, 0, 0, 0, 0), (56, .iaload, 1, 0, 0, 0, 0), (57, .ireturn, 1, 0, 0, 0, 0)]
def mm_m120 : mm_M := (⟨"LineMapModel", "of", "(II)I"⟩, prog_10_method_8_code, 3, some .int, 8, mm_k120, 1013, 1011, 1012, 88, 0)
theorem mm_c120 : mm_mchk mm_m120 = true := by decide +kernel
/-- LineMapModel.areLed(II)Z -/
def mm_k121 : List mm_E := [(0, .iconst 0, 1, 0, 0, 0, 0), (1, .istore_n 3, 1, 0, 0, 0, 0), (2, .iload_n 3, 1, 0, 0, 0, 0), (3, .aload_n 0, 1, 0, 0, 0, 0), (4, .getfield 98, 3, 8, 2, 0, 884), (7, .if_icmp .ge 85, 3, 92, 0, 0, 0), (10, .iconst 1, 1, 0, 0, 0, 0), (11, .istore 4, 2, 0, 0, 0, 0), (13, .iload 4, 2, 0, 0, 0, 0), (15, .aload_n 0, 1, 0, 0, 0, 0), (16, .getfield 16, 3, 8, 6, 0, 888), (19, .iload_n 3, 1, 0, 0, 0, 0), (20, .iaload, 1, 0, 0, 0, 0), (21, .if_icmp .ge 65, 3, 86, 0, 0, 0), (24, .aload_n 0, 1, 0, 0, 0, 0), (25, .getfield 19, 3, 8, 7, 0, 889), (28, .bipush 10, 2, 0, 0, 0, 0), (30, .iload_n 3, 1, 0, 0, 0, 0), (31, .imul, 1, 0, 0, 0, 0), (32, .iload 4, 2, 0, 0, 0, 0), (34, .iadd, 1, 0, 0, 0, 0), (35, .iconst 1, 1, 0, 0, 0, 0), (36, .isub, 1, 0, 0, 0, 0), (37, .iaload, 1, 0, 0, 0, 0), (38, .istore 5, 2, 0, 0, 0, 0), (40, .aload_n 0, 1, 0, 0, 0, 0), (41, .getfield 19, 3, 8, 7, 0, 889), (44, .bipush 10, 2, 0, 0, 0, 0), (46, .iload_n 3, 1, 0, 0, 0, 0), (47, .imul, 1, 0, 0, 0, 0), (48, .iload 4, 2, 0, 0, 0, 0), (50, .iadd, 1, 0, 0, 0, 0), (51, .iaload, 1, 0, 0, 0, 0), (52, .istore 6, 2, 0, 0, 0, 0), (54, .iload 5, 2, 0, 0, 0, 0), (56, .iload_n 1, 1, 0, 0, 0, 0), (57, .if_icmp .ne 9, 3, 66, 0, 0, 0), (60, .iload 6, 2, 0, 0, 0, 0), (62, .iload_n 2, 1, 0, 0, 0, 0), (63, .if_icmp .eq 15, 3, 78, 0, 0, 0), (66, .iload 5, 2, 0, 0, 0, 0), (68, .iload_n 2, 1, 0, 0, 0, 0), (69, .if_icmp .ne 11, 3, 80, 0, 0, 0), (72, .iload 6, 2, 0, 0, 0, 0), (74, .iload_n 1, 1, 0, 0, 0, 0), (75, .if_icmp .ne 5, 3, 80, 0, 0, 0), (78, .iconst 1, 1, 0, 0, 0, 0), (79, .ireturn, 1, 0, 0, 0, 0), (80, .iinc 4 1, 3, 0, 0, 0, 0), (83, .goto (-70), 3, 13, 0, 0, 0), (86, .iinc 3 1, 3, 0, 0, 0, 0), (89, .goto (-87), 3, 2, 0, 0, 0), (92, .iconst 0, 1, 0, 0, 0, 0), (93, .ireturn, 1, 0, 0, 0, 0)]
def mm_m121 : mm_M := (⟨"LineMapModel", "areLed", "(II)Z"⟩, prog_10_method_9_code, 7, some .boolean, 8, mm_k121, 1009, 1008, 47, 88, 0)
theorem mm_c121 : mm_mchk mm_m121 = true := by decide +kernel
/-- LineMapModel.finds()V -/
def mm_k122 : List mm_E := [(0, .aload_n 0, 1, 0, 0, 0, 0), (1, .iconst 0, 1, 0, 0, 0, 0), (2, .putfield 108, 3, 8, 3, 0, 885), (5, .iconst 0, 1, 0, 0, 0, 0), (6, .istore_n 1, 1, 0, 0, 0, 0), (7, .iload_n 1, 1, 0, 0, 0, 0), (8, .aload_n 0, 1, 0, 0, 0, 0), (9, .getfield 87, 3, 8, 1, 0, 883), (12, .if_icmp .ge 69, 3, 81, 0, 0, 0), (15, .iload_n 1, 1, 0, 0, 0, 0), (16, .iconst 1, 1, 0, 0, 0, 0), (17, .iadd, 1, 0, 0, 0, 0), (18, .istore_n 2, 1, 0, 0, 0, 0), (19, .iload_n 2, 1, 0, 0, 0, 0), (20, .aload_n 0, 1, 0, 0, 0, 0), (21, .getfield 87, 3, 8, 1, 0, 883), (24, .if_icmp .ge 51, 3, 75, 0, 0, 0), (27, .aload_n 0, 1, 0, 0, 0, 0), (28, .iload_n 1, 1, 0, 0, 0, 0), (29, .iload_n 2, 1, 0, 0, 0, 0), (30, .invokevirtual 111, 3, 121, 2, 8, 1006), (33, .ifCond .ne 6, 3, 39, 0, 0, 0), (36, .goto 33, 3, 69, 0, 0, 0), (39, .aload_n 0, 1, 0, 0, 0, 0), (40, .getfield 22, 3, 8, 8, 0, 890), (43, .aload_n 0, 1, 0, 0, 0, 0), (44, .getfield 108, 3, 8, 3, 0, 885), (47, .iload_n 1, 1, 0, 0, 0, 0), (48, .iastore, 1, 0, 0, 0, 0), (49, .aload_n 0, 1, 0, 0, 0, 0), (50, .getfield 25, 3, 8, 9, 0, 891), (53, .aload_n 0, 1, 0, 0, 0, 0), (54, .getfield 108, 3, 8, 3, 0, 885), (57, .iload_n 2, 1, 0, 0, 0, 0), (58, .iastore, 1, 0, 0, 0, 0), (59, .aload_n 0, 1, 0, 0, 0, 0), (60, .dup, 1, 0, 0, 0, 0), (61, .getfield 108, 3, 8, 3, 0, 885), (64, .iconst 1, 1, 0, 0, 0, 0), (65, .iadd, 1, 0, 0, 0, 0), (66, .putfield 108, 3, 8, 3, 0, 885), (69, .iinc 2 1, 3, 0, 0, 0, 0), (72, .goto (-53), 3, 19, 0, 0, 0), (75, .iinc 1 1, 3, 0, 0, 0, 0), (78, .goto (-71), 3, 7, 0, 0, 0), (81, .return_, 1, 0, 0, 0, 0)]
def mm_m122 : mm_M := (⟨"LineMapModel", "finds", "()V"⟩, prog_10_method_10_code, 3, none, 8, mm_k122, 1005, 1004, 46, 88, 0)
theorem mm_c122 : mm_mchk mm_m122 = true := by decide +kernel
/-- LineMapModel.size(I)I -/
def mm_k123 : List mm_E := [(0, .iload_n 0, 1, 0, 0, 0, 0), (1, .ifCond .ge 8, 3, 9, 0, 0, 0), (4, .iload_n 0, 1, 0, 0, 0, 0), (5, .ineg, 1, 0, 0, 0, 0), (6, .goto 4, 3, 10, 0, 0, 0), (9, .iload_n 0, 1, 0, 0, 0, 0), (10, .ireturn, 1, 0, 0, 0, 0)]
def mm_m123 : mm_M := (⟨"LineMapModel", "size", "(I)I"⟩, prog_10_method_11_code, 1, some .int, 8, mm_k123, 1024, 1023, 0, 88, 1)
theorem mm_c123 : mm_mchk mm_m123 = true := by decide +kernel
/-- LineMapModel.aslant(II)I -/
def mm_k124 : List mm_E := [(0, .iload_n 0, 1, 0, 0, 0, 0), (1, .ifCond .le 16, 3, 17, 0, 0, 0), (4, .iload_n 1, 1, 0, 0, 0, 0), (5, .ifCond .le 7, 3, 12, 0, 0, 0), (8, .iconst 1, 1, 0, 0, 0, 0), (9, .goto 17, 3, 26, 0, 0, 0), (12, .bipush 7, 2, 0, 0, 0, 0), (14, .goto 12, 3, 26, 0, 0, 0), (17, .iload_n 1, 1, 0, 0, 0, 0), (18, .ifCond .le 7, 3, 25, 0, 0, 0), (21, .iconst 3, 1, 0, 0, 0, 0), (22, .goto 4, 3, 26, 0, 0, 0), (25, .iconst 5, 1, 0, 0, 0, 0), (26, .ireturn, 1, 0, 0, 0, 0)]
def mm_m124 : mm_M := (⟨"LineMapModel", "aslant", "(II)I"⟩, prog_10_method_12_code, 2, some .int, 8, mm_k124, 1027, 1026, 0, 88, 1)
theorem mm_c124 : mm_mchk mm_m124 = true := by decide +kernel
/-- LineMapModel.trueDirection(II)I -/
def mm_k125 : List mm_E := [(0, .aload_n 0, 1, 0, 0, 0, 0), (1, .getfield 7, 3, 8, 4, 0, 886), (4, .iload_n 2, 1, 0, 0, 0, 0), (5, .iaload, 1, 0, 0, 0, 0), (6, .aload_n 0, 1, 0, 0, 0, 0), (7, .getfield 7, 3, 8, 4, 0, 886), (10, .iload_n 1, 1, 0, 0, 0, 0), (11, .iaload, 1, 0, 0, 0, 0), (12, .isub, 1, 0, 0, 0, 0), (13, .istore_n 3, 1, 0, 0, 0, 0), (14, .aload_n 0, 1, 0, 0, 0, 0), (15, .getfield 13, 3, 8, 5, 0, 887), (18, .iload_n 2, 1, 0, 0, 0, 0), (19, .iaload, 1, 0, 0, 0, 0), (20, .aload_n 0, 1, 0, 0, 0, 0), (21, .getfield 13, 3, 8, 5, 0, 887), (24, .iload_n 1, 1, 0, 0, 0, 0), (25, .iaload, 1, 0, 0, 0, 0), (26, .isub, 1, 0, 0, 0, 0), (27, .istore 4, 2, 0, 0, 0, 0), (29, .sipush 1000, 3, 0, 0, 0, 0), (32, .iload 4, 2, 0, 0, 0, 0), (34, .invokestatic 115, 3, 123, 1, 0, 1022), (37, .imul, 1, 0, 0, 0, 0), (38, .sipush 414, 3, 0, 0, 0, 0), (41, .iload_n 3, 1, 0, 0, 0, 0), (42, .invokestatic 115, 3, 123, 1, 0, 1022), (45, .imul, 1, 0, 0, 0, 0), (46, .if_icmp .ge 13, 3, 59, 0, 0, 0), (49, .iload_n 3, 1, 0, 0, 0, 0), (50, .ifCond .le 7, 3, 57, 0, 0, 0), (53, .iconst 0, 1, 0, 0, 0, 0), (54, .goto 4, 3, 58, 0, 0, 0), (57, .iconst 4, 1, 0, 0, 0, 0), (58, .ireturn, 1, 0, 0, 0, 0), (59, .sipush 1000, 3, 0, 0, 0, 0), (62, .iload_n 3, 1, 0, 0, 0, 0), (63, .invokestatic 115, 3, 123, 1, 0, 1022), (66, .imul, 1, 0, 0, 0, 0), (67, .sipush 414, 3, 0, 0, 0, 0), (70, .iload 4, 2, 0, 0, 0, 0), (72, .invokestatic 115, 3, 123, 1, 0, 1022), (75, .imul, 1, 0, 0, 0, 0), (76, .if_icmp .ge 15, 3, 91, 0, 0, 0), (79, .iload 4, 2, 0, 0, 0, 0), (81, .ifCond .le 7, 3, 88, 0, 0, 0), (84, .iconst 2, 1, 0, 0, 0, 0), (85, .goto 5, 3, 90, 0, 0, 0), (88, .bipush 6, 2, 0, 0, 0, 0), (90, .ireturn, 1, 0, 0, 0, 0), (91, .iload_n 3, 1, 0, 0, 0, 0), (92, .iload 4, 2, 0, 0, 0, 0), (94, .invokestatic 118, 3, 124, 2, 0, 1025), (97, .ireturn, 1, 0, 0, 0, 0)]
def mm_m125 : mm_M := (⟨"LineMapModel", "trueDirection", "(II)I"⟩, prog_10_method_13_code, 5, some .int, 8, mm_k125, 1021, 1020, 48, 88, 0)
theorem mm_c125 : mm_mchk mm_m125 = true := by decide +kernel
end
section
/-- LineMapModel.edge(II)I -/
def mm_k126 : List mm_E := [(0, .iload_n 1, 1, 0, 0, 0, 0), (1, .iconst (-1), 1, 0, 0, 0, 0), (2, .if_icmp .ne 16, 3, 18, 0, 0, 0), (5, .iload_n 2, 1, 0, 0, 0, 0), (6, .ifCond .ne 10, 3, 16, 0, 0, 0), (9, .aload_n 0, 1, 0, 0, 0, 0), (10, .getfield 108, 3, 8, 3, 0, 885), (13, .goto 4, 3, 17, 0, 0, 0), (16, .iconst (-1), 1, 0, 0, 0, 0), (17, .ireturn, 1, 0, 0, 0, 0), (18, .iload_n 1, 1, 0, 0, 0, 0), (19, .iconst 0, 1, 0, 0, 0, 0), (20, .aload_n 0, 1, 0, 0, 0, 0), (21, .getfield 108, 3, 8, 3, 0, 885), (24, .iconst 1, 1, 0, 0, 0, 0), (25, .isub, 1, 0, 0, 0, 0), (26, .invokestatic 90, 3, 114, 3, 0, 983), (29, .ifCond .ne 5, 3, 34, 0, 0, 0), (32, .iconst (-1), 1, 0, 0, 0, 0), (33, .ireturn, 1, 0, 0, 0, 0), (34, .iload_n 2, 1, 0, 0, 0, 0), (35, .ifCond .ne 12, 3, 47, 0, 0, 0), (38, .aload_n 0, 1, 0, 0, 0, 0), (39, .getfield 22, 3, 8, 8, 0, 890), (42, .iload_n 1, 1, 0, 0, 0, 0), (43, .iaload, 1, 0, 0, 0, 0), (44, .goto 42, 3, 86, 0, 0, 0), (47, .iload_n 2, 1, 0, 0, 0, 0), (48, .iconst 1, 1, 0, 0, 0, 0), (49, .if_icmp .ne 12, 3, 61, 0, 0, 0), (52, .aload_n 0, 1, 0, 0, 0, 0), (53, .getfield 25, 3, 8, 9, 0, 891), (56, .iload_n 1, 1, 0, 0, 0, 0), (57, .iaload, 1, 0, 0, 0, 0), (58, .goto 28, 3, 86, 0, 0, 0), (61, .iload_n 2, 1, 0, 0, 0, 0), (62, .iconst 2, 1, 0, 0, 0, 0), (63, .if_icmp .ne 22, 3, 85, 0, 0, 0), (66, .aload_n 0, 1, 0, 0, 0, 0), (67, .aload_n 0, 1, 0, 0, 0, 0), (68, .getfield 22, 3, 8, 8, 0, 890), (71, .iload_n 1, 1, 0, 0, 0, 0), (72, .iaload, 1, 0, 0, 0, 0), (73, .aload_n 0, 1, 0, 0, 0, 0), (74, .getfield 25, 3, 8, 9, 0, 891), (77, .iload_n 1, 1, 0, 0, 0, 0), (78, .iaload, 1, 0, 0, 0, 0), (79, .invokevirtual 122, 3, 125, 2, 8, 1018), (82, .goto 4, 3, 86, 0, 0, 0), (85, .iconst (-1), 1, 0, 0, 0, 0), (86, .ireturn, 1, 0, 0, 0, 0)]
def mm_m126 : mm_M := (⟨"LineMapModel", "edge", "(II)I"⟩, prog_10_method_14_code, 3, some .int, 8, mm_k126, 1017, 1015, 1016, 88, 0)
theorem mm_c126 : mm_mchk mm_m126 = true := by decide +kernel
/-- LineMapModel.half(II)I -/
def mm_k127 : List mm_E := [(0, .aload_n 0, 1, 0, 0, 0, 0), (1, .getfield 7, 3, 8, 4, 0, 886), (4, .iload_n 2, 1, 0, 0, 0, 0), (5, .iaload, 1, 0, 0, 0, 0), (6, .aload_n 0, 1, 0, 0, 0, 0), (7, .getfield 7, 3, 8, 4, 0, 886), (10, .iload_n 1, 1, 0, 0, 0, 0), (11, .iaload, 1, 0, 0, 0, 0), (12, .isub, 1, 0, 0, 0, 0), (13, .istore_n 3, 1, 0, 0, 0, 0), (14, .aload_n 0, 1, 0, 0, 0, 0), (15, .getfield 13, 3, 8, 5, 0, 887), (18, .iload_n 2, 1, 0, 0, 0, 0), (19, .iaload, 1, 0, 0, 0, 0), (20, .aload_n 0, 1, 0, 0, 0, 0), (21, .getfield 13, 3, 8, 5, 0, 887), (24, .iload_n 1, 1, 0, 0, 0, 0), (25, .iaload, 1, 0, 0, 0, 0), (26, .isub, 1, 0, 0, 0, 0), (27, .istore 4, 2, 0, 0, 0, 0), (29, .iload 4, 2, 0, 0, 0, 0), (31, .ifCond .gt 12, 3, 43, 0, 0, 0), (34, .iload 4, 2, 0, 0, 0, 0), (36, .ifCond .ne 11, 3, 47, 0, 0, 0), (39, .iload_n 3, 1, 0, 0, 0, 0), (40, .ifCond .le 7, 3, 47, 0, 0, 0), (43, .iconst 0, 1, 0, 0, 0, 0), (44, .goto 4, 3, 48, 0, 0, 0), (47, .iconst 1, 1, 0, 0, 0, 0), (48, .ireturn, 1, 0, 0, 0, 0)]
def mm_m127 : mm_M := (⟨"LineMapModel", "half", "(II)I"⟩, prog_10_method_15_code, 5, some .int, 8, mm_k127, 1043, 1042, 51, 88, 0)
theorem mm_c127 : mm_mchk mm_m127 = true := by decide +kernel
/-- LineMapModel.isAhead(III)Z -/
def mm_k128 : List mm_E := [(0, .aload_n 0, 1, 0, 0, 0, 0), (1, .iload_n 1, 1, 0, 0, 0, 0), (2, .iload_n 2, 1, 0, 0, 0, 0), (3, .invokevirtual 125, 3, 127, 2, 8, 1040), (6, .aload_n 0, 1, 0, 0, 0, 0), (7, .iload_n 1, 1, 0, 0, 0, 0), (8, .iload_n 3, 1, 0, 0, 0, 0), (9, .invokevirtual 125, 3, 127, 2, 8, 1040), (12, .if_icmp .eq 24, 3, 36, 0, 0, 0), (15, .aload_n 0, 1, 0, 0, 0, 0), (16, .iload_n 1, 1, 0, 0, 0, 0), (17, .iload_n 2, 1, 0, 0, 0, 0), (18, .invokevirtual 125, 3, 127, 2, 8, 1040), (21, .aload_n 0, 1, 0, 0, 0, 0), (22, .iload_n 1, 1, 0, 0, 0, 0), (23, .iload_n 3, 1, 0, 0, 0, 0), (24, .invokevirtual 125, 3, 127, 2, 8, 1040), (27, .if_icmp .ge 7, 3, 34, 0, 0, 0), (30, .iconst 1, 1, 0, 0, 0, 0), (31, .goto 4, 3, 35, 0, 0, 0), (34, .iconst 0, 1, 0, 0, 0, 0), (35, .ireturn, 1, 0, 0, 0, 0), (36, .aload_n 0, 1, 0, 0, 0, 0), (37, .getfield 7, 3, 8, 4, 0, 886), (40, .iload_n 2, 1, 0, 0, 0, 0), (41, .iaload, 1, 0, 0, 0, 0), (42, .aload_n 0, 1, 0, 0, 0, 0), (43, .getfield 7, 3, 8, 4, 0, 886), (46, .iload_n 1, 1, 0, 0, 0, 0), (47, .iaload, 1, 0, 0, 0, 0), (48, .isub, 1, 0, 0, 0, 0), (49, .aload_n 0, 1, 0, 0, 0, 0), (50, .getfield 13, 3, 8, 5, 0, 887), (53, .iload_n 3, 1, 0, 0, 0, 0), (54, .iaload, 1, 0, 0, 0, 0), (55, .aload_n 0, 1, 0, 0, 0, 0), (56, .getfield 13, 3, 8, 5, 0, 887), (59, .iload_n 1, 1, 0, 0, 0, 0), (60, .iaload, 1, 0, 0, 0, 0), (61, .isub, 1, 0, 0, 0, 0), (62, .imul, 1, 0, 0, 0, 0), (63, .aload_n 0, 1, 0, 0, 0, 0), (64, .getfield 13, 3, 8, 5, 0, 887), (67, .iload_n 2, 1, 0, 0, 0, 0), (68, .iaload, 1, 0, 0, 0, 0), (69, .aload_n 0, 1, 0, 0, 0, 0), (70, .getfield 13, 3, 8, 5, 0, 887), (73, .iload_n 1, 1, 0, 0, 0, 0), (74, .iaload, 1, 0, 0, 0, 0), (75, .isub, 1, 0, 0, 0, 0), (76, .aload_n 0, 1, 0, 0, 0, 0), (77, .getfield 7, 3, 8, 4, 0, 886), (80, .iload_n 3, 1, 0, 0, 0, 0), (81, .iaload, 1, 0, 0, 0, 0), (82, .aload_n 0, 1, 0, 0, 0, 0), (83, .getfield 7, 3, 8, 4, 0, 886), (86, .iload_n 1, 1, 0, 0, 0, 0), (87, .iaload, 1, 0, 0, 0, 0), (88, .isub, 1, 0, 0, 0, 0), (89, .imul, 1, 0, 0, 0, 0), (90, .isub, 1, 0, 0, 0, 0), (91, .istore 4, 2, 0, 0, 0, 0), (93, .iload 4, 2, 0, 0, 0, 0), (95, .ifCond .eq 16, 3, 111, 0, 0, 0), (98, .iload 4, 2, 0, 0, 0, 0), (100, .ifCond .le 7, 3, 107, 0, 0, 0), (103, .iconst 1, 1, 0, 0, 0, 0), (104, .goto 17, 3, 121, 0, 0, 0), (107, .iconst 0, 1, 0, 0, 0, 0), (108, .goto 13, 3, 121, 0, 0, 0), (111, .iload_n 2, 1, 0, 0, 0, 0), (112, .iload_n 3, 1, 0, 0, 0, 0), (113, .if_icmp .ge 7, 3, 120, 0, 0, 0), (116, .iconst 1, 1, 0, 0, 0, 0), (117, .goto 4, 3, 121, 0, 0, 0), (120, .iconst 0, 1, 0, 0, 0, 0), (121, .ireturn, 1, 0, 0, 0, 0)]
def mm_m128 : mm_M := (⟨"LineMapModel", "isAhead", "(III)Z"⟩, prog_10_method_16_code, 5, some .boolean, 8, mm_k128, 1039, 1038, 50, 88, 0)
theorem mm_c128 : mm_mchk mm_m128 = true := by decide +kernel
/-- LineMapModel.rounds(I)V -/
def mm_k129 : List mm_E := [(0, .aload_n 0, 1, 0, 0, 0, 0), (1, .iconst 0, 1, 0, 0, 0, 0), (2, .putfield 128, 3, 8, 11, 0, 893), (5, .iconst 0, 1, 0, 0, 0, 0), (6, .istore_n 2, 1, 0, 0, 0, 0), (7, .iload_n 2, 1, 0, 0, 0, 0), (8, .aload_n 0, 1, 0, 0, 0, 0), (9, .getfield 87, 3, 8, 1, 0, 883), (12, .if_icmp .ge 89, 3, 101, 0, 0, 0), (15, .iload_n 2, 1, 0, 0, 0, 0), (16, .iload_n 1, 1, 0, 0, 0, 0), (17, .if_icmp .eq 78, 3, 95, 0, 0, 0), (20, .aload_n 0, 1, 0, 0, 0, 0), (21, .iload_n 1, 1, 0, 0, 0, 0), (22, .iload_n 2, 1, 0, 0, 0, 0), (23, .invokevirtual 111, 3, 121, 2, 8, 1006), (26, .ifCond .ne 6, 3, 32, 0, 0, 0), (29, .goto 66, 3, 95, 0, 0, 0), (32, .aload_n 0, 1, 0, 0, 0, 0), (33, .getfield 128, 3, 8, 11, 0, 893), (36, .istore_n 3, 1, 0, 0, 0, 0), (37, .iload_n 3, 1, 0, 0, 0, 0), (38, .ifCond .le 40, 3, 78, 0, 0, 0), (41, .aload_n 0, 1, 0, 0, 0, 0), (42, .iload_n 1, 1, 0, 0, 0, 0), (43, .iload_n 2, 1, 0, 0, 0, 0), (44, .aload_n 0, 1, 0, 0, 0, 0), (45, .getfield 28, 3, 8, 10, 0, 892), (48, .iload_n 3, 1, 0, 0, 0, 0), (49, .iconst 1, 1, 0, 0, 0, 0), (50, .isub, 1, 0, 0, 0, 0), (51, .iaload, 1, 0, 0, 0, 0), (52, .invokevirtual 131, 3, 128, 3, 8, 1036), (55, .ifCond .eq 23, 3, 78, 0, 0, 0), (58, .aload_n 0, 1, 0, 0, 0, 0), (59, .getfield 28, 3, 8, 10, 0, 892), (62, .iload_n 3, 1, 0, 0, 0, 0), (63, .aload_n 0, 1, 0, 0, 0, 0), (64, .getfield 28, 3, 8, 10, 0, 892), (67, .iload_n 3, 1, 0, 0, 0, 0), (68, .iconst 1, 1, 0, 0, 0, 0), (69, .isub, 1, 0, 0, 0, 0), (70, .iaload, 1, 0, 0, 0, 0), (71, .iastore, 1, 0, 0, 0, 0), (72, .iinc 3 (-1), 3, 0, 0, 0, 0), (75, .goto (-38), 3, 37, 0, 0, 0), (78, .aload_n 0, 1, 0, 0, 0, 0), (79, .getfield 28, 3, 8, 10, 0, 892), (82, .iload_n 3, 1, 0, 0, 0, 0), (83, .iload_n 2, 1, 0, 0, 0, 0), (84, .iastore, 1, 0, 0, 0, 0), (85, .aload_n 0, 1, 0, 0, 0, 0), (86, .dup, 1, 0, 0, 0, 0), (87, .getfield 128, 3, 8, 11, 0, 893), (90, .iconst 1, 1, 0, 0, 0, 0), (91, .iadd, 1, 0, 0, 0, 0), (92, .putfield 128, 3, 8, 11, 0, 893), (95, .iinc 2 1, 3, 0, 0, 0, 0), (98, .goto (-91), 3, 7, 0, 0, 0), (101, .return_, 1, 0, 0, 0, 0)]
def mm_m129 : mm_M := (⟨"LineMapModel", "rounds", "(I)V"⟩, prog_10_method_17_code, 4, none, 8, mm_k129, 1035, 1034, 49, 88, 0)
theorem mm_c129 : mm_mchk mm_m129 = true := by decide +kernel
/-- LineMapModel.round(II)I -/
def mm_k130 : List mm_E := [(0, .aload_n 0, 1, 0, 0, 0, 0), (1, .iload_n 1, 1, 0, 0, 0, 0), (2, .invokevirtual 101, 3, 116, 1, 8, 998), (5, .ifCond .ne 5, 3, 10, 0, 0, 0), (8, .iconst (-1), 1, 0, 0, 0, 0), (9, .ireturn, 1, 0, 0, 0, 0), (10, .aload_n 0, 1, 0, 0, 0, 0), (11, .iload_n 1, 1, 0, 0, 0, 0), (12, .invokevirtual 134, 3, 129, 1, 8, 1032), (15, .iload_n 2, 1, 0, 0, 0, 0), (16, .iconst (-1), 1, 0, 0, 0, 0), (17, .if_icmp .ne 10, 3, 27, 0, 0, 0), (20, .aload_n 0, 1, 0, 0, 0, 0), (21, .getfield 128, 3, 8, 11, 0, 893), (24, .goto 27, 3, 51, 0, 0, 0), (27, .iload_n 2, 1, 0, 0, 0, 0), (28, .iconst 0, 1, 0, 0, 0, 0), (29, .aload_n 0, 1, 0, 0, 0, 0), (30, .getfield 128, 3, 8, 11, 0, 893), (33, .iconst 1, 1, 0, 0, 0, 0), (34, .isub, 1, 0, 0, 0, 0), (35, .invokestatic 90, 3, 114, 3, 0, 983), (38, .ifCond .eq 12, 3, 50, 0, 0, 0), (41, .aload_n 0, 1, 0, 0, 0, 0), (42, .getfield 28, 3, 8, 10, 0, 892), (45, .iload_n 2, 1, 0, 0, 0, 0), (46, .iaload, 1, 0, 0, 0, 0), (47, .goto 4, 3, 51, 0, 0, 0), (50, .iconst (-1), 1, 0, 0, 0, 0), (51, .ireturn, 1, 0, 0, 0, 0)]
def mm_m130 : mm_M := (⟨"LineMapModel", "round", "(II)I"⟩, prog_10_method_18_code, 3, some .int, 8, mm_k130, 1031, 1029, 1030, 88, 0)
theorem mm_c130 : mm_mchk mm_m130 = true := by decide +kernel
/-- LineMapModel.grid(II)I -/
def mm_k131 : List mm_E := [(0, .iload_n 1, 1, 0, 0, 0, 0), (1, .iconst 2, 1, 0, 0, 0, 0), (2, .bipush 8, 2, 0, 0, 0, 0), (4, .invokestatic 90, 3, 114, 3, 0, 983), (7, .ifCond .eq 13, 3, 20, 0, 0, 0), (10, .iload_n 2, 1, 0, 0, 0, 0), (11, .iconst 2, 1, 0, 0, 0, 0), (12, .bipush 8, 2, 0, 0, 0, 0), (14, .invokestatic 90, 3, 114, 3, 0, 983), (17, .ifCond .ne 9, 3, 26, 0, 0, 0), (20, .aload_n 0, 1, 0, 0, 0, 0), (21, .iconst (-1), 1, 0, 0, 0, 0), (22, .invokevirtual 94, 3, 115, 1, 8, 986), (25, .ireturn, 1, 0, 0, 0, 0), (26, .aload_n 0, 1, 0, 0, 0, 0), (27, .iload_n 1, 1, 0, 0, 0, 0), (28, .putfield 31, 3, 8, 12, 0, 894), (31, .aload_n 0, 1, 0, 0, 0, 0), (32, .iload_n 2, 1, 0, 0, 0, 0), (33, .putfield 35, 3, 8, 13, 0, 895), (36, .iconst 0, 1, 0, 0, 0, 0), (37, .istore_n 3, 1, 0, 0, 0, 0), (38, .iload_n 3, 1, 0, 0, 0, 0), (39, .bipush 10, 2, 0, 0, 0, 0), (41, .if_icmp .ge 23, 3, 64, 0, 0, 0), (44, .aload_n 0, 1, 0, 0, 0, 0), (45, .getfield 50, 3, 8, 18, 0, 900), (48, .iload_n 3, 1, 0, 0, 0, 0), (49, .iconst (-1), 1, 0, 0, 0, 0), (50, .iastore, 1, 0, 0, 0, 0), (51, .aload_n 0, 1, 0, 0, 0, 0), (52, .getfield 53, 3, 8, 19, 0, 901), (55, .iload_n 3, 1, 0, 0, 0, 0), (56, .iconst 0, 1, 0, 0, 0, 0), (57, .bastore, 1, 0, 0, 0, 0), (58, .iinc 3 1, 3, 0, 0, 0, 0), (61, .goto (-23), 3, 38, 0, 0, 0), (64, .aload_n 0, 1, 0, 0, 0, 0), (65, .iconst 0, 1, 0, 0, 0, 0), (66, .invokevirtual 94, 3, 115, 1, 8, 986), (69, .ireturn, 1, 0, 0, 0, 0)]
def mm_m131 : mm_M := (⟨"LineMapModel", "grid", "(II)I"⟩, prog_10_method_19_code, 4, some .int, 8, mm_k131, 1047, 1045, 1046, 88, 0)
theorem mm_c131 : mm_mchk mm_m131 = true := by decide +kernel
/-- LineMapModel.span(I)I -/
def mm_k132 : List mm_E := [(0, .iload_n 1, 1, 0, 0, 0, 0), (1, .iconst 1, 1, 0, 0, 0, 0), (2, .iconst 4, 1, 0, 0, 0, 0), (3, .invokestatic 90, 3, 114, 3, 0, 983), (6, .ifCond .ne 9, 3, 15, 0, 0, 0), (9, .aload_n 0, 1, 0, 0, 0, 0), (10, .iconst (-1), 1, 0, 0, 0, 0), (11, .invokevirtual 94, 3, 115, 1, 8, 986), (14, .ireturn, 1, 0, 0, 0, 0), (15, .aload_n 0, 1, 0, 0, 0, 0), (16, .getfield 38, 3, 8, 14, 0, 896), (19, .istore_n 2, 1, 0, 0, 0, 0), (20, .aload_n 0, 1, 0, 0, 0, 0), (21, .iload_n 1, 1, 0, 0, 0, 0), (22, .putfield 38, 3, 8, 14, 0, 896), (25, .aload_n 0, 1, 0, 0, 0, 0), (26, .iload_n 2, 1, 0, 0, 0, 0), (27, .invokevirtual 94, 3, 115, 1, 8, 986), (30, .ireturn, 1, 0, 0, 0, 0)]
def mm_m132 : mm_M := (⟨"LineMapModel", "span", "(I)I"⟩, prog_10_method_20_code, 3, some .int, 8, mm_k132, 1051, 1049, 1050, 88, 0)
theorem mm_c132 : mm_mchk mm_m132 = true := by decide +kernel
/-- LineMapModel.terms(III)I -/
def mm_k133 : List mm_E := [(0, .iload_n 1, 1, 0, 0, 0, 0), (1, .iconst 0, 1, 0, 0, 0, 0), (2, .bipush 100, 2, 0, 0, 0, 0), (4, .invokestatic 90, 3, 114, 3, 0, 983), (7, .ifCond .eq 23, 3, 30, 0, 0, 0), (10, .iload_n 2, 1, 0, 0, 0, 0), (11, .iconst 0, 1, 0, 0, 0, 0), (12, .bipush 100, 2, 0, 0, 0, 0), (14, .invokestatic 90, 3, 114, 3, 0, 983), (17, .ifCond .eq 13, 3, 30, 0, 0, 0), (20, .iload_n 3, 1, 0, 0, 0, 0), (21, .iconst 0, 1, 0, 0, 0, 0), (22, .bipush 100, 2, 0, 0, 0, 0), (24, .invokestatic 90, 3, 114, 3, 0, 983), (27, .ifCond .ne 9, 3, 36, 0, 0, 0), (30, .aload_n 0, 1, 0, 0, 0, 0), (31, .iconst (-1), 1, 0, 0, 0, 0), (32, .invokevirtual 94, 3, 115, 1, 8, 986), (35, .ireturn, 1, 0, 0, 0, 0), (36, .aload_n 0, 1, 0, 0, 0, 0), (37, .iload_n 1, 1, 0, 0, 0, 0), (38, .putfield 41, 3, 8, 15, 0, 897), (41, .aload_n 0, 1, 0, 0, 0, 0), (42, .iload_n 2, 1, 0, 0, 0, 0), (43, .putfield 44, 3, 8, 16, 0, 898), (46, .aload_n 0, 1, 0, 0, 0, 0), (47, .iload_n 3, 1, 0, 0, 0, 0), (48, .putfield 47, 3, 8, 17, 0, 899), (51, .aload_n 0, 1, 0, 0, 0, 0), (52, .iconst 0, 1, 0, 0, 0, 0), (53, .invokevirtual 94, 3, 115, 1, 8, 986), (56, .ireturn, 1, 0, 0, 0, 0)]
def mm_m133 : mm_M := (⟨"LineMapModel", "terms", "(III)I"⟩, prog_10_method_21_code, 4, some .int, 8, mm_k133, 1055, 1053, 1054, 88, 0)
theorem mm_c133 : mm_mchk mm_m133 = true := by decide +kernel
/-- LineMapModel.place(III)I -/
def mm_k134 : List mm_E := [(0, .iload_n 2, 1, 0, 0, 0, 0), (1, .iconst 0, 1, 0, 0, 0, 0), (2, .aload_n 0, 1, 0, 0, 0, 0), (3, .getfield 31, 3, 8, 12, 0, 894), (6, .iconst 1, 1, 0, 0, 0, 0), (7, .isub, 1, 0, 0, 0, 0), (8, .invokestatic 90, 3, 114, 3, 0, 983), (11, .ifCond .eq 17, 3, 28, 0, 0, 0), (14, .iload_n 3, 1, 0, 0, 0, 0), (15, .iconst 0, 1, 0, 0, 0, 0), (16, .aload_n 0, 1, 0, 0, 0, 0), (17, .getfield 35, 3, 8, 13, 0, 895), (20, .iconst 1, 1, 0, 0, 0, 0), (21, .isub, 1, 0, 0, 0, 0), (22, .invokestatic 90, 3, 114, 3, 0, 983), (25, .ifCond .ne 9, 3, 34, 0, 0, 0), (28, .aload_n 0, 1, 0, 0, 0, 0), (29, .iconst (-1), 1, 0, 0, 0, 0), (30, .invokevirtual 94, 3, 115, 1, 8, 986), (33, .ireturn, 1, 0, 0, 0, 0), (34, .aload_n 0, 1, 0, 0, 0, 0), (35, .iload_n 1, 1, 0, 0, 0, 0), (36, .invokevirtual 101, 3, 116, 1, 8, 998), (39, .ifCond .ne 10, 3, 49, 0, 0, 0), (42, .aload_n 0, 1, 0, 0, 0, 0), (43, .bipush (-2), 2, 0, 0, 0, 0), (45, .invokevirtual 94, 3, 115, 1, 8, 986), (48, .ireturn, 1, 0, 0, 0, 0), (49, .aload_n 0, 1, 0, 0, 0, 0), (50, .getfield 53, 3, 8, 19, 0, 901), (53, .iload_n 1, 1, 0, 0, 0, 0), (54, .baload, 1, 0, 0, 0, 0), (55, .ifCond .eq 10, 3, 65, 0, 0, 0), (58, .aload_n 0, 1, 0, 0, 0, 0), (59, .bipush (-6), 2, 0, 0, 0, 0), (61, .invokevirtual 94, 3, 115, 1, 8, 986), (64, .ireturn, 1, 0, 0, 0, 0), (65, .aload_n 0, 1, 0, 0, 0, 0), (66, .getfield 50, 3, 8, 18, 0, 900), (69, .iload_n 1, 1, 0, 0, 0, 0), (70, .iload_n 3, 1, 0, 0, 0, 0), (71, .aload_n 0, 1, 0, 0, 0, 0), (72, .getfield 31, 3, 8, 12, 0, 894), (75, .imul, 1, 0, 0, 0, 0), (76, .iload_n 2, 1, 0, 0, 0, 0), (77, .iadd, 1, 0, 0, 0, 0), (78, .iastore, 1, 0, 0, 0, 0), (79, .aload_n 0, 1, 0, 0, 0, 0), (80, .iconst 0, 1, 0, 0, 0, 0), (81, .invokevirtual 94, 3, 115, 1, 8, 986), (84, .ireturn, 1, 0, 0, 0, 0)]
def mm_m134 : mm_M := (⟨"LineMapModel", "place", "(III)I"⟩, prog_10_method_22_code, 4, some .int, 8, mm_k134, 1059, 1057, 1058, 88, 0)
theorem mm_c134 : mm_mchk mm_m134 = true := by decide +kernel
/-- LineMapModel.point(I)I -/
def mm_k135 : List mm_E := [(0, .aload_n 0, 1, 0, 0, 0, 0), (1, .iload_n 1, 1, 0, 0, 0, 0), (2, .invokevirtual 101, 3, 116, 1, 8, 998), (5, .ifCond .eq 12, 3, 17, 0, 0, 0), (8, .aload_n 0, 1, 0, 0, 0, 0), (9, .getfield 50, 3, 8, 18, 0, 900), (12, .iload_n 1, 1, 0, 0, 0, 0), (13, .iaload, 1, 0, 0, 0, 0), (14, .goto 4, 3, 18, 0, 0, 0), (17, .iconst (-1), 1, 0, 0, 0, 0), (18, .ireturn, 1, 0, 0, 0, 0)]
def mm_m135 : mm_M := (⟨"LineMapModel", "point", "(I)I"⟩, prog_10_method_23_code, 2, some .int, 8, mm_k135, 1063, 1061, 1062, 88, 0)
theorem mm_c135 : mm_mchk mm_m135 = true := by decide +kernel
/-- LineMapModel.hold(IZ)I -/
def mm_k136 : List mm_E := [(0, .aload_n 0, 1, 0, 0, 0, 0), (1, .iload_n 1, 1, 0, 0, 0, 0), (2, .invokevirtual 101, 3, 116, 1, 8, 998), (5, .ifCond .eq 13, 3, 18, 0, 0, 0), (8, .aload_n 0, 1, 0, 0, 0, 0), (9, .getfield 50, 3, 8, 18, 0, 900), (12, .iload_n 1, 1, 0, 0, 0, 0), (13, .iaload, 1, 0, 0, 0, 0), (14, .iconst (-1), 1, 0, 0, 0, 0), (15, .if_icmp .ne 10, 3, 25, 0, 0, 0), (18, .aload_n 0, 1, 0, 0, 0, 0), (19, .bipush (-2), 2, 0, 0, 0, 0), (21, .invokevirtual 94, 3, 115, 1, 8, 986), (24, .ireturn, 1, 0, 0, 0, 0), (25, .aload_n 0, 1, 0, 0, 0, 0), (26, .getfield 53, 3, 8, 19, 0, 901), (29, .iload_n 1, 1, 0, 0, 0, 0), (30, .iload_n 2, 1, 0, 0, 0, 0), (31, .bastore, 1, 0, 0, 0, 0), (32, .aload_n 0, 1, 0, 0, 0, 0), (33, .iconst 0, 1, 0, 0, 0, 0), (34, .invokevirtual 94, 3, 115, 1, 8, 986), (37, .ireturn, 1, 0, 0, 0, 0)]
def mm_m136 : mm_M := (⟨"LineMapModel", "hold", "(IZ)I"⟩, prog_10_method_24_code, 3, some .int, 8, mm_k136, 1067, 1065, 1066, 88, 0)
theorem mm_c136 : mm_mchk mm_m136 = true := by decide +kernel
/-- LineMapModel.x(I)I -/
def mm_k137 : List mm_E := [(0, .aload_n 0, 1, 0, 0, 0, 0), (1, .getfield 50, 3, 8, 18, 0, 900), (4, .iload_n 1, 1, 0, 0, 0, 0), (5, .iaload, 1, 0, 0, 0, 0), (6, .aload_n 0, 1, 0, 0, 0, 0), (7, .getfield 31, 3, 8, 12, 0, 894), (10, .irem, 1, 0, 0, 0, 0), (11, .ireturn, 1, 0, 0, 0, 0)]
def mm_m137 : mm_M := (⟨"LineMapModel", "x", "(I)I"⟩, prog_10_method_25_code, 2, some .int, 8, mm_k137, 1087, 1086, 55, 88, 0)
theorem mm_c137 : mm_mchk mm_m137 = true := by decide +kernel
/-- LineMapModel.y(I)I -/
def mm_k138 : List mm_E := [(0, .aload_n 0, 1, 0, 0, 0, 0), (1, .getfield 50, 3, 8, 18, 0, 900), (4, .iload_n 1, 1, 0, 0, 0, 0), (5, .iaload, 1, 0, 0, 0, 0), (6, .aload_n 0, 1, 0, 0, 0, 0), (7, .getfield 31, 3, 8, 12, 0, 894), (10, .idiv, 1, 0, 0, 0, 0), (11, .ireturn, 1, 0, 0, 0, 0)]
def mm_m138 : mm_M := (⟨"LineMapModel", "y", "(I)I"⟩, prog_10_method_26_code, 2, some .int, 8, mm_k138, 1091, 1090, 56, 88, 0)
theorem mm_c138 : mm_mchk mm_m138 = true := by decide +kernel
/-- LineMapModel.isStraight(II)Z -/
def mm_k139 : List mm_E := [(0, .aload_n 0, 1, 0, 0, 0, 0), (1, .iload_n 2, 1, 0, 0, 0, 0), (2, .invokevirtual 138, 3, 137, 1, 8, 1084), (5, .aload_n 0, 1, 0, 0, 0, 0), (6, .iload_n 1, 1, 0, 0, 0, 0), (7, .invokevirtual 138, 3, 137, 1, 8, 1084), (10, .isub, 1, 0, 0, 0, 0), (11, .invokestatic 115, 3, 123, 1, 0, 1022), (14, .istore_n 3, 1, 0, 0, 0, 0), (15, .aload_n 0, 1, 0, 0, 0, 0), (16, .iload_n 2, 1, 0, 0, 0, 0), (17, .invokevirtual 141, 3, 138, 1, 8, 1088), (20, .aload_n 0, 1, 0, 0, 0, 0), (21, .iload_n 1, 1, 0, 0, 0, 0), (22, .invokevirtual 141, 3, 138, 1, 8, 1088), (25, .isub, 1, 0, 0, 0, 0), (26, .invokestatic 115, 3, 123, 1, 0, 1022), (29, .istore 4, 2, 0, 0, 0, 0), (31, .iload_n 3, 1, 0, 0, 0, 0), (32, .ifCond .eq 14, 3, 46, 0, 0, 0), (35, .iload 4, 2, 0, 0, 0, 0), (37, .ifCond .eq 9, 3, 46, 0, 0, 0), (40, .iload_n 3, 1, 0, 0, 0, 0), (41, .iload 4, 2, 0, 0, 0, 0), (43, .if_icmp .ne 7, 3, 50, 0, 0, 0), (46, .iconst 1, 1, 0, 0, 0, 0), (47, .goto 4, 3, 51, 0, 0, 0), (50, .iconst 0, 1, 0, 0, 0, 0), (51, .ireturn, 1, 0, 0, 0, 0)]
def mm_m139 : mm_M := (⟨"LineMapModel", "isStraight", "(II)Z"⟩, prog_10_method_27_code, 5, some .boolean, 8, mm_k139, 1083, 1082, 54, 88, 0)
theorem mm_c139 : mm_mchk mm_m139 = true := by decide +kernel
/-- LineMapModel.length(II)I -/
def mm_k140 : List mm_E := [(0, .aload_n 0, 1, 0, 0, 0, 0), (1, .iload_n 2, 1, 0, 0, 0, 0), (2, .invokevirtual 138, 3, 137, 1, 8, 1084), (5, .aload_n 0, 1, 0, 0, 0, 0), (6, .iload_n 1, 1, 0, 0, 0, 0), (7, .invokevirtual 138, 3, 137, 1, 8, 1084), (10, .isub, 1, 0, 0, 0, 0), (11, .invokestatic 115, 3, 123, 1, 0, 1022), (14, .istore_n 3, 1, 0, 0, 0, 0), (15, .aload_n 0, 1, 0, 0, 0, 0), (16, .iload_n 2, 1, 0, 0, 0, 0), (17, .invokevirtual 141, 3, 138, 1, 8, 1088), (20, .aload_n 0, 1, 0, 0, 0, 0), (21, .iload_n 1, 1, 0, 0, 0, 0), (22, .invokevirtual 141, 3, 138, 1, 8, 1088), (25, .isub, 1, 0, 0, 0, 0), (26, .invokestatic 115, 3, 123, 1, 0, 1022), (29, .istore 4, 2, 0, 0, 0, 0), (31, .iload_n 3, 1, 0, 0, 0, 0), (32, .iload 4, 2, 0, 0, 0, 0), (34, .if_icmp .le 7, 3, 41, 0, 0, 0), (37, .iload_n 3, 1, 0, 0, 0, 0), (38, .goto 5, 3, 43, 0, 0, 0), (41, .iload 4, 2, 0, 0, 0, 0), (43, .ireturn, 1, 0, 0, 0, 0)]
def mm_m140 : mm_M := (⟨"LineMapModel", "length", "(II)I"⟩, prog_10_method_28_code, 5, some .int, 8, mm_k140, 1095, 1094, 57, 88, 0)
theorem mm_c140 : mm_mchk mm_m140 = true := by decide +kernel
/-- LineMapModel.direction(II)I -/
def mm_k141 : List mm_E := [(0, .aload_n 0, 1, 0, 0, 0, 0), (1, .iload_n 2, 1, 0, 0, 0, 0), (2, .invokevirtual 138, 3, 137, 1, 8, 1084), (5, .aload_n 0, 1, 0, 0, 0, 0), (6, .iload_n 1, 1, 0, 0, 0, 0), (7, .invokevirtual 138, 3, 137, 1, 8, 1084), (10, .isub, 1, 0, 0, 0, 0), (11, .istore_n 3, 1, 0, 0, 0, 0), (12, .aload_n 0, 1, 0, 0, 0, 0), (13, .iload_n 2, 1, 0, 0, 0, 0), (14, .invokevirtual 141, 3, 138, 1, 8, 1088), (17, .aload_n 0, 1, 0, 0, 0, 0), (18, .iload_n 1, 1, 0, 0, 0, 0), (19, .invokevirtual 141, 3, 138, 1, 8, 1088), (22, .isub, 1, 0, 0, 0, 0), (23, .istore 4, 2, 0, 0, 0, 0), (25, .iload 4, 2, 0, 0, 0, 0), (27, .ifCond .ne 13, 3, 40, 0, 0, 0), (30, .iload_n 3, 1, 0, 0, 0, 0), (31, .ifCond .le 7, 3, 38, 0, 0, 0), (34, .iconst 0, 1, 0, 0, 0, 0), (35, .goto 4, 3, 39, 0, 0, 0), (38, .iconst 4, 1, 0, 0, 0, 0), (39, .ireturn, 1, 0, 0, 0, 0), (40, .iload_n 3, 1, 0, 0, 0, 0), (41, .ifCond .ne 15, 3, 56, 0, 0, 0), (44, .iload 4, 2, 0, 0, 0, 0), (46, .ifCond .le 7, 3, 53, 0, 0, 0), (49, .iconst 2, 1, 0, 0, 0, 0), (50, .goto 5, 3, 55, 0, 0, 0), (53, .bipush 6, 2, 0, 0, 0, 0), (55, .ireturn, 1, 0, 0, 0, 0), (56, .iload_n 3, 1, 0, 0, 0, 0), (57, .iload 4, 2, 0, 0, 0, 0), (59, .invokestatic 118, 3, 124, 2, 0, 1025), (62, .ireturn, 1, 0, 0, 0, 0)]
def mm_m141 : mm_M := (⟨"LineMapModel", "direction", "(II)I"⟩, prog_10_method_29_code, 5, some .int, 8, mm_k141, 1114, 1113, 61, 88, 0)
theorem mm_c141 : mm_mchk mm_m141 = true := by decide +kernel
/-- LineMapModel.cross(III)I -/
def mm_k142 : List mm_E := [(0, .aload_n 0, 1, 0, 0, 0, 0), (1, .iload_n 2, 1, 0, 0, 0, 0), (2, .invokevirtual 138, 3, 137, 1, 8, 1084), (5, .aload_n 0, 1, 0, 0, 0, 0), (6, .iload_n 1, 1, 0, 0, 0, 0), (7, .invokevirtual 138, 3, 137, 1, 8, 1084), (10, .isub, 1, 0, 0, 0, 0), (11, .aload_n 0, 1, 0, 0, 0, 0), (12, .iload_n 3, 1, 0, 0, 0, 0), (13, .invokevirtual 141, 3, 138, 1, 8, 1088), (16, .aload_n 0, 1, 0, 0, 0, 0), (17, .iload_n 1, 1, 0, 0, 0, 0), (18, .invokevirtual 141, 3, 138, 1, 8, 1088), (21, .isub, 1, 0, 0, 0, 0), (22, .imul, 1, 0, 0, 0, 0), (23, .aload_n 0, 1, 0, 0, 0, 0), (24, .iload_n 2, 1, 0, 0, 0, 0), (25, .invokevirtual 141, 3, 138, 1, 8, 1088), (28, .aload_n 0, 1, 0, 0, 0, 0), (29, .iload_n 1, 1, 0, 0, 0, 0), (30, .invokevirtual 141, 3, 138, 1, 8, 1088), (33, .isub, 1, 0, 0, 0, 0), (34, .aload_n 0, 1, 0, 0, 0, 0), (35, .iload_n 3, 1, 0, 0, 0, 0), (36, .invokevirtual 138, 3, 137, 1, 8, 1084), (39, .aload_n 0, 1, 0, 0, 0, 0), (40, .iload_n 1, 1, 0, 0, 0, 0), (41, .invokevirtual 138, 3, 137, 1, 8, 1084), (44, .isub, 1, 0, 0, 0, 0), (45, .imul, 1, 0, 0, 0, 0), (46, .isub, 1, 0, 0, 0, 0), (47, .ireturn, 1, 0, 0, 0, 0)]
def mm_m142 : mm_M := (⟨"LineMapModel", "cross", "(III)I"⟩, prog_10_method_30_code, 4, some .int, 8, mm_k142, 1103, 1102, 59, 88, 0)
theorem mm_c142 : mm_mchk mm_m142 = true := by decide +kernel
/-- LineMapModel.isBetween(III)Z -/
def mm_k143 : List mm_E := [(0, .iload_n 1, 1, 0, 0, 0, 0), (1, .iload_n 2, 1, 0, 0, 0, 0), (2, .if_icmp .ge 12, 3, 14, 0, 0, 0), (5, .iload_n 0, 1, 0, 0, 0, 0), (6, .iload_n 1, 1, 0, 0, 0, 0), (7, .iload_n 2, 1, 0, 0, 0, 0), (8, .invokestatic 90, 3, 114, 3, 0, 983), (11, .goto 9, 3, 20, 0, 0, 0), (14, .iload_n 0, 1, 0, 0, 0, 0), (15, .iload_n 2, 1, 0, 0, 0, 0), (16, .iload_n 1, 1, 0, 0, 0, 0), (17, .invokestatic 90, 3, 114, 3, 0, 983), (20, .ireturn, 1, 0, 0, 0, 0)]
def mm_m143 : mm_M := (⟨"LineMapModel", "isBetween", "(III)Z"⟩, prog_10_method_31_code, 3, some .boolean, 8, mm_k143, 1106, 1105, 0, 88, 1)
theorem mm_c143 : mm_mchk mm_m143 = true := by decide +kernel
/-- LineMapModel.lies(III)Z -/
def mm_k144 : List mm_E := [(0, .aload_n 0, 1, 0, 0, 0, 0), (1, .iload_n 2, 1, 0, 0, 0, 0), (2, .iload_n 3, 1, 0, 0, 0, 0), (3, .iload_n 1, 1, 0, 0, 0, 0), (4, .invokevirtual 144, 3, 142, 3, 8, 1100), (7, .ifCond .ne 49, 3, 56, 0, 0, 0), (10, .aload_n 0, 1, 0, 0, 0, 0), (11, .iload_n 1, 1, 0, 0, 0, 0), (12, .invokevirtual 138, 3, 137, 1, 8, 1084), (15, .aload_n 0, 1, 0, 0, 0, 0), (16, .iload_n 2, 1, 0, 0, 0, 0), (17, .invokevirtual 138, 3, 137, 1, 8, 1084), (20, .aload_n 0, 1, 0, 0, 0, 0), (21, .iload_n 3, 1, 0, 0, 0, 0), (22, .invokevirtual 138, 3, 137, 1, 8, 1084), (25, .invokestatic 148, 3, 143, 3, 0, 1104), (28, .ifCond .eq 28, 3, 56, 0, 0, 0), (31, .aload_n 0, 1, 0, 0, 0, 0), (32, .iload_n 1, 1, 0, 0, 0, 0), (33, .invokevirtual 141, 3, 138, 1, 8, 1088), (36, .aload_n 0, 1, 0, 0, 0, 0), (37, .iload_n 2, 1, 0, 0, 0, 0), (38, .invokevirtual 141, 3, 138, 1, 8, 1088), (41, .aload_n 0, 1, 0, 0, 0, 0), (42, .iload_n 3, 1, 0, 0, 0, 0), (43, .invokevirtual 141, 3, 138, 1, 8, 1088), (46, .invokestatic 148, 3, 143, 3, 0, 1104), (49, .ifCond .eq 7, 3, 56, 0, 0, 0), (52, .iconst 1, 1, 0, 0, 0, 0), (53, .goto 4, 3, 57, 0, 0, 0), (56, .iconst 0, 1, 0, 0, 0, 0), (57, .ireturn, 1, 0, 0, 0, 0)]
def mm_m144 : mm_M := (⟨"LineMapModel", "lies", "(III)Z"⟩, prog_10_method_32_code, 4, some .boolean, 8, mm_k144, 1099, 1098, 58, 88, 0)
theorem mm_c144 : mm_mchk mm_m144 = true := by decide +kernel
/-- LineMapModel.sign(I)I -/
def mm_k145 : List mm_E := [(0, .iload_n 0, 1, 0, 0, 0, 0), (1, .ifCond .ge 7, 3, 8, 0, 0, 0), (4, .iconst (-1), 1, 0, 0, 0, 0), (5, .goto 12, 3, 17, 0, 0, 0), (8, .iload_n 0, 1, 0, 0, 0, 0), (9, .ifCond .le 7, 3, 16, 0, 0, 0), (12, .iconst 1, 1, 0, 0, 0, 0), (13, .goto 4, 3, 17, 0, 0, 0), (16, .iconst 0, 1, 0, 0, 0, 0), (17, .ireturn, 1, 0, 0, 0, 0)]
def mm_m145 : mm_M := (⟨"LineMapModel", "sign", "(I)I"⟩, prog_10_method_33_code, 1, some .int, 8, mm_k145, 1117, 1116, 0, 88, 1)
theorem mm_c145 : mm_mchk mm_m145 = true := by decide +kernel
/-- LineMapModel.meet(IIII)Z -/
def mm_k146 : List mm_E := [(0, .iload_n 1, 1, 0, 0, 0, 0), (1, .iload_n 3, 1, 0, 0, 0, 0), (2, .if_icmp .eq 20, 3, 22, 0, 0, 0), (5, .iload_n 1, 1, 0, 0, 0, 0), (6, .iload 4, 2, 0, 0, 0, 0), (8, .if_icmp .eq 14, 3, 22, 0, 0, 0), (11, .iload_n 2, 1, 0, 0, 0, 0), (12, .iload_n 3, 1, 0, 0, 0, 0), (13, .if_icmp .eq 9, 3, 22, 0, 0, 0), (16, .iload_n 2, 1, 0, 0, 0, 0), (17, .iload 4, 2, 0, 0, 0, 0), (19, .if_icmp .ne 73, 3, 92, 0, 0, 0), (22, .iload_n 1, 1, 0, 0, 0, 0), (23, .iload_n 3, 1, 0, 0, 0, 0), (24, .if_icmp .eq 9, 3, 33, 0, 0, 0), (27, .iload_n 1, 1, 0, 0, 0, 0), (28, .iload 4, 2, 0, 0, 0, 0), (30, .if_icmp .ne 7, 3, 37, 0, 0, 0), (33, .iload_n 1, 1, 0, 0, 0, 0), (34, .goto 4, 3, 38, 0, 0, 0), (37, .iload_n 2, 1, 0, 0, 0, 0), (38, .istore 5, 2, 0, 0, 0, 0), (40, .iload 5, 2, 0, 0, 0, 0), (42, .iload_n 1, 1, 0, 0, 0, 0), (43, .if_icmp .ne 7, 3, 50, 0, 0, 0), (46, .iload_n 2, 1, 0, 0, 0, 0), (47, .goto 4, 3, 51, 0, 0, 0), (50, .iload_n 1, 1, 0, 0, 0, 0), (51, .istore 6, 2, 0, 0, 0, 0), (53, .iload 5, 2, 0, 0, 0, 0), (55, .iload_n 3, 1, 0, 0, 0, 0), (56, .if_icmp .ne 8, 3, 64, 0, 0, 0), (59, .iload 4, 2, 0, 0, 0, 0), (61, .goto 4, 3, 65, 0, 0, 0), (64, .iload_n 3, 1, 0, 0, 0, 0), (65, .istore 7, 2, 0, 0, 0, 0), (67, .aload_n 0, 1, 0, 0, 0, 0), (68, .iload 5, 2, 0, 0, 0, 0), (70, .iload 6, 2, 0, 0, 0, 0), (72, .invokevirtual 151, 3, 141, 2, 8, 1111), (75, .aload_n 0, 1, 0, 0, 0, 0), (76, .iload 5, 2, 0, 0, 0, 0), (78, .iload 7, 2, 0, 0, 0, 0), (80, .invokevirtual 151, 3, 141, 2, 8, 1111), (83, .if_icmp .ne 7, 3, 90, 0, 0, 0), (86, .iconst 1, 1, 0, 0, 0, 0), (87, .goto 4, 3, 91, 0, 0, 0), (90, .iconst 0, 1, 0, 0, 0, 0), (91, .ireturn, 1, 0, 0, 0, 0), (92, .aload_n 0, 1, 0, 0, 0, 0), (93, .iload_n 1, 1, 0, 0, 0, 0), (94, .iload_n 2, 1, 0, 0, 0, 0), (95, .iload_n 3, 1, 0, 0, 0, 0), (96, .invokevirtual 144, 3, 142, 3, 8, 1100), (99, .invokestatic 154, 3, 145, 1, 0, 1115), (102, .aload_n 0, 1, 0, 0, 0, 0), (103, .iload_n 1, 1, 0, 0, 0, 0), (104, .iload_n 2, 1, 0, 0, 0, 0), (105, .iload 4, 2, 0, 0, 0, 0), (107, .invokevirtual 144, 3, 142, 3, 8, 1100), (110, .invokestatic 154, 3, 145, 1, 0, 1115), (113, .imul, 1, 0, 0, 0, 0), (114, .istore 5, 2, 0, 0, 0, 0), (116, .aload_n 0, 1, 0, 0, 0, 0), (117, .iload_n 3, 1, 0, 0, 0, 0), (118, .iload 4, 2, 0, 0, 0, 0), (120, .iload_n 1, 1, 0, 0, 0, 0), (121, .invokevirtual 144, 3, 142, 3, 8, 1100), (124, .invokestatic 154, 3, 145, 1, 0, 1115), (127, .aload_n 0, 1, 0, 0, 0, 0), (128, .iload_n 3, 1, 0, 0, 0, 0), (129, .iload 4, 2, 0, 0, 0, 0), (131, .iload_n 2, 1, 0, 0, 0, 0), (132, .invokevirtual 144, 3, 142, 3, 8, 1100), (135, .invokestatic 154, 3, 145, 1, 0, 1115), (138, .imul, 1, 0, 0, 0, 0), (139, .istore 6, 2, 0, 0, 0, 0), (141, .iload 5, 2, 0, 0, 0, 0), (143, .ifCond .ge 8, 3, 151, 0, 0, 0), (146, .iload 6, 2, 0, 0, 0, 0), (148, .ifCond .lt 46, 3, 194, 0, 0, 0), (151, .aload_n 0, 1, 0, 0, 0, 0), (152, .iload_n 3, 1, 0, 0, 0, 0), (153, .iload_n 1, 1, 0, 0, 0, 0), (154, .iload_n 2, 1, 0, 0, 0, 0), (155, .invokevirtual 157, 3, 144, 3, 8, 1096), (158, .ifCond .ne 36, 3, 194, 0, 0, 0), (161, .aload_n 0, 1, 0, 0, 0, 0), (162, .iload 4, 2, 0, 0, 0, 0), (164, .iload_n 1, 1, 0, 0, 0, 0), (165, .iload_n 2, 1, 0, 0, 0, 0), (166, .invokevirtual 157, 3, 144, 3, 8, 1096), (169, .ifCond .ne 25, 3, 194, 0, 0, 0), (172, .aload_n 0, 1, 0, 0, 0, 0), (173, .iload_n 1, 1, 0, 0, 0, 0), (174, .iload_n 3, 1, 0, 0, 0, 0), (175, .iload 4, 2, 0, 0, 0, 0), (177, .invokevirtual 157, 3, 144, 3, 8, 1096), (180, .ifCond .ne 14, 3, 194, 0, 0, 0), (183, .aload_n 0, 1, 0, 0, 0, 0), (184, .iload_n 2, 1, 0, 0, 0, 0), (185, .iload_n 3, 1, 0, 0, 0, 0), (186, .iload 4, 2, 0, 0, 0, 0), (188, .invokevirtual 157, 3, 144, 3, 8, 1096), (191, .ifCond .eq 7, 3, 198, 0, 0, 0), (194, .iconst 1, 1, 0, 0, 0, 0), (195, .goto 4, 3, 199, 0, 0, 0), (198, .iconst 0, 1, 0, 0, 0, 0), (199, .ireturn, 1, 0, 0, 0, 0)]
def mm_m146 : mm_M := (⟨"LineMapModel", "meet", "(IIII)Z"⟩, prog_10_method_34_code, 8, some .boolean, 8, mm_k146, 1110, 1109, 60, 88, 0)
theorem mm_c146 : mm_mchk mm_m146 = true := by decide +kernel
/-- LineMapModel.bars(III)I -/
def mm_k147 : List mm_E := [(0, .aload_n 0, 1, 0, 0, 0, 0), (1, .iload_n 2, 1, 0, 0, 0, 0), (2, .putfield 160, 3, 8, 21, 0, 903), (5, .aload_n 0, 1, 0, 0, 0, 0), (6, .iload_n 3, 1, 0, 0, 0, 0), (7, .putfield 163, 3, 8, 22, 0, 904), (10, .iload_n 1, 1, 0, 0, 0, 0), (11, .ireturn, 1, 0, 0, 0, 0)]
def mm_m147 : mm_M := (⟨"LineMapModel", "bars", "(III)I"⟩, prog_10_method_35_code, 4, some .int, 8, mm_k147, 1079, 1078, 53, 88, 0)
theorem mm_c147 : mm_mchk mm_m147 = true := by decide +kernel
/-- LineMapModel.whyNot()I -/
def mm_k148 : List mm_E := [(0, .iconst 0, 1, 0, 0, 0, 0), (1, .istore_n 1, 1, 0, 0, 0, 0), (2, .iload_n 1, 1, 0, 0, 0, 0), (3, .aload_n 0, 1, 0, 0, 0, 0), (4, .getfield 87, 3, 8, 1, 0, 883), (7, .if_icmp .ge 27, 3, 34, 0, 0, 0), (10, .aload_n 0, 1, 0, 0, 0, 0), (11, .getfield 50, 3, 8, 18, 0, 900), (14, .iload_n 1, 1, 0, 0, 0, 0), (15, .iaload, 1, 0, 0, 0, 0), (16, .iconst (-1), 1, 0, 0, 0, 0), (17, .if_icmp .ne 11, 3, 28, 0, 0, 0), (20, .aload_n 0, 1, 0, 0, 0, 0), (21, .iconst 1, 1, 0, 0, 0, 0), (22, .iload_n 1, 1, 0, 0, 0, 0), (23, .iconst (-1), 1, 0, 0, 0, 0), (24, .invokevirtual 166, 3, 147, 3, 8, 1076), (27, .ireturn, 1, 0, 0, 0, 0), (28, .iinc 1 1, 3, 0, 0, 0, 0), (31, .goto (-29), 3, 2, 0, 0, 0), (34, .iconst 0, 1, 0, 0, 0, 0), (35, .istore_n 1, 1, 0, 0, 0, 0), (36, .iload_n 1, 1, 0, 0, 0, 0), (37, .aload_n 0, 1, 0, 0, 0, 0), (38, .getfield 87, 3, 8, 1, 0, 883), (41, .if_icmp .ge 50, 3, 91, 0, 0, 0), (44, .iload_n 1, 1, 0, 0, 0, 0), (45, .iconst 1, 1, 0, 0, 0, 0), (46, .iadd, 1, 0, 0, 0, 0), (47, .istore_n 2, 1, 0, 0, 0, 0), (48, .iload_n 2, 1, 0, 0, 0, 0), (49, .aload_n 0, 1, 0, 0, 0, 0), (50, .getfield 87, 3, 8, 1, 0, 883), (53, .if_icmp .ge 32, 3, 85, 0, 0, 0), (56, .aload_n 0, 1, 0, 0, 0, 0), (57, .getfield 50, 3, 8, 18, 0, 900), (60, .iload_n 1, 1, 0, 0, 0, 0), (61, .iaload, 1, 0, 0, 0, 0), (62, .aload_n 0, 1, 0, 0, 0, 0), (63, .getfield 50, 3, 8, 18, 0, 900), (66, .iload_n 2, 1, 0, 0, 0, 0), (67, .iaload, 1, 0, 0, 0, 0), (68, .if_icmp .ne 11, 3, 79, 0, 0, 0), (71, .aload_n 0, 1, 0, 0, 0, 0), (72, .iconst 2, 1, 0, 0, 0, 0), (73, .iload_n 1, 1, 0, 0, 0, 0), (74, .iload_n 2, 1, 0, 0, 0, 0), (75, .invokevirtual 166, 3, 147, 3, 8, 1076), (78, .ireturn, 1, 0, 0, 0, 0), (79, .iinc 2 1, 3, 0, 0, 0, 0), (82, .goto (-34), 3, 48, 0, 0, 0), (85, .iinc 1 1, 3, 0, 0, 0, 0), (88, .goto (-52), 3, 36, 0, 0, 0), (91, .iconst 0, 1, 0, 0, 0, 0), (92, .istore_n 1, 1, 0, 0, 0, 0), (93, .iload_n 1, 1, 0, 0, 0, 0), (94, .aload_n 0, 1, 0, 0, 0, 0), (95, .getfield 108, 3, 8, 3, 0, 885), (98, .if_icmp .ge 36, 3, 134, 0, 0, 0), (101, .aload_n 0, 1, 0, 0, 0, 0), (102, .aload_n 0, 1, 0, 0, 0, 0), (103, .getfield 22, 3, 8, 8, 0, 890), (106, .iload_n 1, 1, 0, 0, 0, 0), (107, .iaload, 1, 0, 0, 0, 0), (108, .aload_n 0, 1, 0, 0, 0, 0), (109, .getfield 25, 3, 8, 9, 0, 891), (112, .iload_n 1, 1, 0, 0, 0, 0), (113, .iaload, 1, 0, 0, 0, 0), (114, .invokevirtual 169, 3, 139, 2, 8, 1080), (117, .ifCond .ne 11, 3, 128, 0, 0, 0), (120, .aload_n 0, 1, 0, 0, 0, 0), (121, .iconst 3, 1, 0, 0, 0, 0), (122, .iload_n 1, 1, 0, 0, 0, 0), (123, .iconst (-1), 1, 0, 0, 0, 0), (124, .invokevirtual 166, 3, 147, 3, 8, 1076), (127, .ireturn, 1, 0, 0, 0, 0), (128, .iinc 1 1, 3, 0, 0, 0, 0), (131, .goto (-38), 3, 93, 0, 0, 0), (134, .iconst 0, 1, 0, 0, 0, 0), (135, .istore_n 1, 1, 0, 0, 0, 0), (136, .iload_n 1, 1, 0, 0, 0, 0), (137, .aload_n 0, 1, 0, 0, 0, 0), (138, .getfield 108, 3, 8, 3, 0, 885), (141, .if_icmp .ge 40, 3, 181, 0, 0, 0), (144, .aload_n 0, 1, 0, 0, 0, 0), (145, .aload_n 0, 1, 0, 0, 0, 0), (146, .getfield 22, 3, 8, 8, 0, 890), (149, .iload_n 1, 1, 0, 0, 0, 0), (150, .iaload, 1, 0, 0, 0, 0), (151, .aload_n 0, 1, 0, 0, 0, 0), (152, .getfield 25, 3, 8, 9, 0, 891), (155, .iload_n 1, 1, 0, 0, 0, 0), (156, .iaload, 1, 0, 0, 0, 0), (157, .invokevirtual 172, 3, 140, 2, 8, 1092), (160, .aload_n 0, 1, 0, 0, 0, 0), (161, .getfield 38, 3, 8, 14, 0, 896), (164, .if_icmp .ge 11, 3, 175, 0, 0, 0), (167, .aload_n 0, 1, 0, 0, 0, 0), (168, .iconst 4, 1, 0, 0, 0, 0), (169, .iload_n 1, 1, 0, 0, 0, 0), (170, .iconst (-1), 1, 0, 0, 0, 0), (171, .invokevirtual 166, 3, 147, 3, 8, 1076), (174, .ireturn, 1, 0, 0, 0, 0), (175, .iinc 1 1, 3, 0, 0, 0, 0), (178, .goto (-42), 3, 136, 0, 0, 0), (181, .iconst 0, 1, 0, 0, 0, 0), (182, .istore_n 1, 1, 0, 0, 0, 0), (183, .iload_n 1, 1, 0, 0, 0, 0), (184, .aload_n 0, 1, 0, 0, 0, 0), (185, .getfield 108, 3, 8, 3, 0, 885), (188, .if_icmp .ge 73, 3, 261, 0, 0, 0), (191, .iconst 0, 1, 0, 0, 0, 0), (192, .istore_n 2, 1, 0, 0, 0, 0), (193, .iload_n 2, 1, 0, 0, 0, 0), (194, .aload_n 0, 1, 0, 0, 0, 0), (195, .getfield 87, 3, 8, 1, 0, 883), (198, .if_icmp .ge 57, 3, 255, 0, 0, 0), (201, .iload_n 2, 1, 0, 0, 0, 0), (202, .aload_n 0, 1, 0, 0, 0, 0), (203, .getfield 22, 3, 8, 8, 0, 890), (206, .iload_n 1, 1, 0, 0, 0, 0), (207, .iaload, 1, 0, 0, 0, 0), (208, .if_icmp .eq 41, 3, 249, 0, 0, 0), (211, .iload_n 2, 1, 0, 0, 0, 0), (212, .aload_n 0, 1, 0, 0, 0, 0), (213, .getfield 25, 3, 8, 9, 0, 891), (216, .iload_n 1, 1, 0, 0, 0, 0), (217, .iaload, 1, 0, 0, 0, 0), (218, .if_icmp .eq 31, 3, 249, 0, 0, 0), (221, .aload_n 0, 1, 0, 0, 0, 0), (222, .iload_n 2, 1, 0, 0, 0, 0), (223, .aload_n 0, 1, 0, 0, 0, 0), (224, .getfield 22, 3, 8, 8, 0, 890), (227, .iload_n 1, 1, 0, 0, 0, 0), (228, .iaload, 1, 0, 0, 0, 0), (229, .aload_n 0, 1, 0, 0, 0, 0), (230, .getfield 25, 3, 8, 9, 0, 891), (233, .iload_n 1, 1, 0, 0, 0, 0), (234, .iaload, 1, 0, 0, 0, 0), (235, .invokevirtual 157, 3, 144, 3, 8, 1096), (238, .ifCond .eq 11, 3, 249, 0, 0, 0), (241, .aload_n 0, 1, 0, 0, 0, 0), (242, .iconst 5, 1, 0, 0, 0, 0), (243, .iload_n 1, 1, 0, 0, 0, 0), (244, .iload_n 2, 1, 0, 0, 0, 0), (245, .invokevirtual 166, 3, 147, 3, 8, 1076), (248, .ireturn, 1, 0, 0, 0, 0), (249, .iinc 2 1, 3, 0, 0, 0, 0), (252, .goto (-59), 3, 193, 0, 0, 0), (255, .iinc 1 1, 3, 0, 0, 0, 0), (258, .goto (-75), 3, 183, 0, 0, 0), (261, .iconst 0, 1, 0, 0, 0, 0), (262, .istore_n 1, 1, 0, 0, 0, 0), (263, .iload_n 1, 1, 0, 0, 0, 0), (264, .aload_n 0, 1, 0, 0, 0, 0), (265, .getfield 108, 3, 8, 3, 0, 885), (268, .if_icmp .ge 67, 3, 335, 0, 0, 0), (271, .iload_n 1, 1, 0, 0, 0, 0), (272, .iconst 1, 1, 0, 0, 0, 0), (273, .iadd, 1, 0, 0, 0, 0), (274, .istore_n 2, 1, 0, 0, 0, 0), (275, .iload_n 2, 1, 0, 0, 0, 0), (276, .aload_n 0, 1, 0, 0, 0, 0), (277, .getfield 108, 3, 8, 3, 0, 885), (280, .if_icmp .ge 49, 3, 329, 0, 0, 0), (283, .aload_n 0, 1, 0, 0, 0, 0), (284, .aload_n 0, 1, 0, 0, 0, 0), (285, .getfield 22, 3, 8, 8, 0, 890), (288, .iload_n 1, 1, 0, 0, 0, 0), (289, .iaload, 1, 0, 0, 0, 0), (290, .aload_n 0, 1, 0, 0, 0, 0), (291, .getfield 25, 3, 8, 9, 0, 891), (294, .iload_n 1, 1, 0, 0, 0, 0), (295, .iaload, 1, 0, 0, 0, 0), (296, .aload_n 0, 1, 0, 0, 0, 0), (297, .getfield 22, 3, 8, 8, 0, 890), (300, .iload_n 2, 1, 0, 0, 0, 0), (301, .iaload, 1, 0, 0, 0, 0), (302, .aload_n 0, 1, 0, 0, 0, 0), (303, .getfield 25, 3, 8, 9, 0, 891), (306, .iload_n 2, 1, 0, 0, 0, 0), (307, .iaload, 1, 0, 0, 0, 0), (308, .invokevirtual 175, 3, 146, 4, 8, 1107), (311, .ifCond .eq 12, 3, 323, 0, 0, 0), (314, .aload_n 0, 1, 0, 0, 0, 0), (315, .bipush 6, 2, 0, 0, 0, 0), (317, .iload_n 1, 1, 0, 0, 0, 0), (318, .iload_n 2, 1, 0, 0, 0, 0), (319, .invokevirtual 166, 3, 147, 3, 8, 1076), (322, .ireturn, 1, 0, 0, 0, 0), (323, .iinc 2 1, 3, 0, 0, 0, 0), (326, .goto (-51), 3, 275, 0, 0, 0), (329, .iinc 1 1, 3, 0, 0, 0, 0), (332, .goto (-69), 3, 263, 0, 0, 0), (335, .iconst 0, 1, 0, 0, 0, 0), (336, .istore_n 1, 1, 0, 0, 0, 0), (337, .iload_n 1, 1, 0, 0, 0, 0), (338, .aload_n 0, 1, 0, 0, 0, 0), (339, .getfield 87, 3, 8, 1, 0, 883), (342, .if_icmp .ge 26, 3, 368, 0, 0, 0), (345, .aload_n 0, 1, 0, 0, 0, 0), (346, .iload_n 1, 1, 0, 0, 0, 0), (347, .invokevirtual 179, 3, 149, 1, 8, 1118), (350, .ifCond .ne 12, 3, 362, 0, 0, 0), (353, .aload_n 0, 1, 0, 0, 0, 0), (354, .bipush 7, 2, 0, 0, 0, 0), (356, .iload_n 1, 1, 0, 0, 0, 0), (357, .iconst (-1), 1, 0, 0, 0, 0), (358, .invokevirtual 166, 3, 147, 3, 8, 1076), (361, .ireturn, 1, 0, 0, 0, 0), (362, .iinc 1 1, 3, 0, 0, 0, 0), (365, .goto (-28), 3, 337, 0, 0, 0), (368, .aload_n 0, 1, 0, 0, 0, 0), (369, .iconst 0, 1, 0, 0, 0, 0), (370, .iconst (-1), 1, 0, 0, 0, 0), (371, .iconst (-1), 1, 0, 0, 0, 0), (372, .invokevirtual 166, 3, 147, 3, 8, 1076), (375, .ireturn, 1, 0, 0, 0, 0)]
def mm_m148 : mm_M := (⟨"LineMapModel", "whyNot", "()I"⟩, prog_10_method_36_code, 3, some .int, 8, mm_k148, 1075, 1074, 52, 88, 0)
theorem mm_c148 : mm_mchk mm_m148 = true := by decide +kernel
end
section
/-- LineMapModel.isTrueRound(I)Z -/
def mm_k149 : List mm_E := [(0, .aload_n 0, 1, 0, 0, 0, 0), (1, .iload_n 1, 1, 0, 0, 0, 0), (2, .invokevirtual 134, 3, 129, 1, 8, 1032), (5, .aload_n 0, 1, 0, 0, 0, 0), (6, .getfield 128, 3, 8, 11, 0, 893), (9, .iconst 3, 1, 0, 0, 0, 0), (10, .if_icmp .ge 5, 3, 15, 0, 0, 0), (13, .iconst 1, 1, 0, 0, 0, 0), (14, .ireturn, 1, 0, 0, 0, 0), (15, .iconst 0, 1, 0, 0, 0, 0), (16, .istore_n 2, 1, 0, 0, 0, 0), (17, .iconst 0, 1, 0, 0, 0, 0), (18, .istore_n 3, 1, 0, 0, 0, 0), (19, .iload_n 3, 1, 0, 0, 0, 0), (20, .aload_n 0, 1, 0, 0, 0, 0), (21, .getfield 128, 3, 8, 11, 0, 893), (24, .if_icmp .ge 59, 3, 83, 0, 0, 0), (27, .aload_n 0, 1, 0, 0, 0, 0), (28, .iload_n 1, 1, 0, 0, 0, 0), (29, .aload_n 0, 1, 0, 0, 0, 0), (30, .getfield 28, 3, 8, 10, 0, 892), (33, .iload_n 3, 1, 0, 0, 0, 0), (34, .iconst 1, 1, 0, 0, 0, 0), (35, .iadd, 1, 0, 0, 0, 0), (36, .aload_n 0, 1, 0, 0, 0, 0), (37, .getfield 128, 3, 8, 11, 0, 893), (40, .irem, 1, 0, 0, 0, 0), (41, .iaload, 1, 0, 0, 0, 0), (42, .invokevirtual 151, 3, 141, 2, 8, 1111), (45, .aload_n 0, 1, 0, 0, 0, 0), (46, .iload_n 1, 1, 0, 0, 0, 0), (47, .aload_n 0, 1, 0, 0, 0, 0), (48, .getfield 28, 3, 8, 10, 0, 892), (51, .iload_n 3, 1, 0, 0, 0, 0), (52, .iaload, 1, 0, 0, 0, 0), (53, .invokevirtual 151, 3, 141, 2, 8, 1111), (56, .isub, 1, 0, 0, 0, 0), (57, .istore 4, 2, 0, 0, 0, 0), (59, .iload_n 2, 1, 0, 0, 0, 0), (60, .iload 4, 2, 0, 0, 0, 0), (62, .ifCond .le 8, 3, 70, 0, 0, 0), (65, .iload 4, 2, 0, 0, 0, 0), (67, .goto 8, 3, 75, 0, 0, 0), (70, .iload 4, 2, 0, 0, 0, 0), (72, .bipush 8, 2, 0, 0, 0, 0), (74, .iadd, 1, 0, 0, 0, 0), (75, .iadd, 1, 0, 0, 0, 0), (76, .istore_n 2, 1, 0, 0, 0, 0), (77, .iinc 3 1, 3, 0, 0, 0, 0), (80, .goto (-61), 3, 19, 0, 0, 0), (83, .iload_n 2, 1, 0, 0, 0, 0), (84, .bipush 8, 2, 0, 0, 0, 0), (86, .if_icmp .ne 7, 3, 93, 0, 0, 0), (89, .iconst 1, 1, 0, 0, 0, 0), (90, .goto 4, 3, 94, 0, 0, 0), (93, .iconst 0, 1, 0, 0, 0, 0), (94, .ireturn, 1, 0, 0, 0, 0)]
def mm_m149 : mm_M := (⟨"LineMapModel", "isTrueRound", "(I)Z"⟩, prog_10_method_37_code, 5, some .boolean, 8, mm_k149, 1121, 1120, 62, 88, 0)
theorem mm_c149 : mm_mchk mm_m149 = true := by decide +kernel
/-- LineMapModel.why(I)I -/
def mm_k150 : List mm_E := [(0, .iload_n 1, 1, 0, 0, 0, 0), (1, .iconst 0, 1, 0, 0, 0, 0), (2, .iconst 2, 1, 0, 0, 0, 0), (3, .invokestatic 90, 3, 114, 3, 0, 983), (6, .ifCond .ne 5, 3, 11, 0, 0, 0), (9, .iconst (-1), 1, 0, 0, 0, 0), (10, .ireturn, 1, 0, 0, 0, 0), (11, .aload_n 0, 1, 0, 0, 0, 0), (12, .invokevirtual 182, 3, 148, 0, 8, 1072), (15, .istore_n 2, 1, 0, 0, 0, 0), (16, .iload_n 1, 1, 0, 0, 0, 0), (17, .ifCond .ne 7, 3, 24, 0, 0, 0), (20, .iload_n 2, 1, 0, 0, 0, 0), (21, .goto 19, 3, 40, 0, 0, 0), (24, .iload_n 1, 1, 0, 0, 0, 0), (25, .iconst 1, 1, 0, 0, 0, 0), (26, .if_icmp .ne 10, 3, 36, 0, 0, 0), (29, .aload_n 0, 1, 0, 0, 0, 0), (30, .getfield 160, 3, 8, 21, 0, 903), (33, .goto 7, 3, 40, 0, 0, 0), (36, .aload_n 0, 1, 0, 0, 0, 0), (37, .getfield 163, 3, 8, 22, 0, 904), (40, .ireturn, 1, 0, 0, 0, 0)]
def mm_m150 : mm_M := (⟨"LineMapModel", "why", "(I)I"⟩, prog_10_method_38_code, 3, some .int, 8, mm_k150, 1071, 1069, 1070, 88, 0)
theorem mm_c150 : mm_mchk mm_m150 = true := by decide +kernel
/-- LineMapModel.apart(II)I -/
def mm_k151 : List mm_E := [(0, .iload_n 0, 1, 0, 0, 0, 0), (1, .iload_n 1, 1, 0, 0, 0, 0), (2, .isub, 1, 0, 0, 0, 0), (3, .invokestatic 115, 3, 123, 1, 0, 1022), (6, .istore_n 2, 1, 0, 0, 0, 0), (7, .iload_n 2, 1, 0, 0, 0, 0), (8, .iconst 4, 1, 0, 0, 0, 0), (9, .if_icmp .le 10, 3, 19, 0, 0, 0), (12, .bipush 8, 2, 0, 0, 0, 0), (14, .iload_n 2, 1, 0, 0, 0, 0), (15, .isub, 1, 0, 0, 0, 0), (16, .goto 4, 3, 20, 0, 0, 0), (19, .iload_n 2, 1, 0, 0, 0, 0), (20, .ireturn, 1, 0, 0, 0, 0)]
def mm_m151 : mm_M := (⟨"LineMapModel", "apart", "(II)I"⟩, prog_10_method_39_code, 3, some .int, 8, mm_k151, 1136, 1135, 0, 88, 1)
theorem mm_c151 : mm_mchk mm_m151 = true := by decide +kernel
/-- LineMapModel.bends()I -/
def mm_k152 : List mm_E := [(0, .iconst 0, 1, 0, 0, 0, 0), (1, .istore_n 1, 1, 0, 0, 0, 0), (2, .iconst 0, 1, 0, 0, 0, 0), (3, .istore_n 2, 1, 0, 0, 0, 0), (4, .iload_n 2, 1, 0, 0, 0, 0), (5, .aload_n 0, 1, 0, 0, 0, 0), (6, .getfield 98, 3, 8, 2, 0, 884), (9, .if_icmp .ge 86, 3, 95, 0, 0, 0), (12, .iconst 1, 1, 0, 0, 0, 0), (13, .istore_n 3, 1, 0, 0, 0, 0), (14, .iload_n 3, 1, 0, 0, 0, 0), (15, .iconst 1, 1, 0, 0, 0, 0), (16, .iadd, 1, 0, 0, 0, 0), (17, .aload_n 0, 1, 0, 0, 0, 0), (18, .getfield 16, 3, 8, 6, 0, 888), (21, .iload_n 2, 1, 0, 0, 0, 0), (22, .iaload, 1, 0, 0, 0, 0), (23, .if_icmp .ge 66, 3, 89, 0, 0, 0), (26, .aload_n 0, 1, 0, 0, 0, 0), (27, .getfield 19, 3, 8, 7, 0, 889), (30, .bipush 10, 2, 0, 0, 0, 0), (32, .iload_n 2, 1, 0, 0, 0, 0), (33, .imul, 1, 0, 0, 0, 0), (34, .iload_n 3, 1, 0, 0, 0, 0), (35, .iadd, 1, 0, 0, 0, 0), (36, .iaload, 1, 0, 0, 0, 0), (37, .istore 4, 2, 0, 0, 0, 0), (39, .iload_n 1, 1, 0, 0, 0, 0), (40, .aload_n 0, 1, 0, 0, 0, 0), (41, .aload_n 0, 1, 0, 0, 0, 0), (42, .getfield 19, 3, 8, 7, 0, 889), (45, .bipush 10, 2, 0, 0, 0, 0), (47, .iload_n 2, 1, 0, 0, 0, 0), (48, .imul, 1, 0, 0, 0, 0), (49, .iload_n 3, 1, 0, 0, 0, 0), (50, .iadd, 1, 0, 0, 0, 0), (51, .iconst 1, 1, 0, 0, 0, 0), (52, .isub, 1, 0, 0, 0, 0), (53, .iaload, 1, 0, 0, 0, 0), (54, .iload 4, 2, 0, 0, 0, 0), (56, .invokevirtual 151, 3, 141, 2, 8, 1111), (59, .aload_n 0, 1, 0, 0, 0, 0), (60, .iload 4, 2, 0, 0, 0, 0), (62, .aload_n 0, 1, 0, 0, 0, 0), (63, .getfield 19, 3, 8, 7, 0, 889), (66, .bipush 10, 2, 0, 0, 0, 0), (68, .iload_n 2, 1, 0, 0, 0, 0), (69, .imul, 1, 0, 0, 0, 0), (70, .iload_n 3, 1, 0, 0, 0, 0), (71, .iadd, 1, 0, 0, 0, 0), (72, .iconst 1, 1, 0, 0, 0, 0), (73, .iadd, 1, 0, 0, 0, 0), (74, .iaload, 1, 0, 0, 0, 0), (75, .invokevirtual 151, 3, 141, 2, 8, 1111), (78, .invokestatic 186, 3, 151, 2, 0, 1134), (81, .iadd, 1, 0, 0, 0, 0), (82, .istore_n 1, 1, 0, 0, 0, 0), (83, .iinc 3 1, 3, 0, 0, 0, 0), (86, .goto (-72), 3, 14, 0, 0, 0), (89, .iinc 2 1, 3, 0, 0, 0, 0), (92, .goto (-88), 3, 4, 0, 0, 0), (95, .iload_n 1, 1, 0, 0, 0, 0), (96, .ireturn, 1, 0, 0, 0, 0)]
def mm_m152 : mm_M := (⟨"LineMapModel", "bends", "()I"⟩, prog_10_method_40_code, 5, some .int, 8, mm_k152, 1133, 1132, 64, 88, 0)
theorem mm_c152 : mm_mchk mm_m152 = true := by decide +kernel
/-- LineMapModel.lengths()I -/
def mm_k153 : List mm_E := [(0, .iconst 0, 1, 0, 0, 0, 0), (1, .istore_n 1, 1, 0, 0, 0, 0), (2, .iconst 0, 1, 0, 0, 0, 0), (3, .istore_n 2, 1, 0, 0, 0, 0), (4, .iload_n 2, 1, 0, 0, 0, 0), (5, .aload_n 0, 1, 0, 0, 0, 0), (6, .getfield 108, 3, 8, 3, 0, 885), (9, .if_icmp .ge 28, 3, 37, 0, 0, 0), (12, .iload_n 1, 1, 0, 0, 0, 0), (13, .aload_n 0, 1, 0, 0, 0, 0), (14, .aload_n 0, 1, 0, 0, 0, 0), (15, .getfield 22, 3, 8, 8, 0, 890), (18, .iload_n 2, 1, 0, 0, 0, 0), (19, .iaload, 1, 0, 0, 0, 0), (20, .aload_n 0, 1, 0, 0, 0, 0), (21, .getfield 25, 3, 8, 9, 0, 891), (24, .iload_n 2, 1, 0, 0, 0, 0), (25, .iaload, 1, 0, 0, 0, 0), (26, .invokevirtual 172, 3, 140, 2, 8, 1092), (29, .iadd, 1, 0, 0, 0, 0), (30, .istore_n 1, 1, 0, 0, 0, 0), (31, .iinc 2 1, 3, 0, 0, 0, 0), (34, .goto (-30), 3, 4, 0, 0, 0), (37, .iload_n 1, 1, 0, 0, 0, 0), (38, .ireturn, 1, 0, 0, 0, 0)]
def mm_m153 : mm_M := (⟨"LineMapModel", "lengths", "()I"⟩, prog_10_method_41_code, 3, some .int, 8, mm_k153, 1140, 1139, 65, 88, 0)
theorem mm_c153 : mm_mchk mm_m153 = true := by decide +kernel
/-- LineMapModel.turns()I -/
def mm_k154 : List mm_E := [(0, .iconst 0, 1, 0, 0, 0, 0), (1, .istore_n 1, 1, 0, 0, 0, 0), (2, .iconst 0, 1, 0, 0, 0, 0), (3, .istore_n 2, 1, 0, 0, 0, 0), (4, .iload_n 2, 1, 0, 0, 0, 0), (5, .aload_n 0, 1, 0, 0, 0, 0), (6, .getfield 108, 3, 8, 3, 0, 885), (9, .if_icmp .ge 47, 3, 56, 0, 0, 0), (12, .iload_n 1, 1, 0, 0, 0, 0), (13, .aload_n 0, 1, 0, 0, 0, 0), (14, .aload_n 0, 1, 0, 0, 0, 0), (15, .getfield 22, 3, 8, 8, 0, 890), (18, .iload_n 2, 1, 0, 0, 0, 0), (19, .iaload, 1, 0, 0, 0, 0), (20, .aload_n 0, 1, 0, 0, 0, 0), (21, .getfield 25, 3, 8, 9, 0, 891), (24, .iload_n 2, 1, 0, 0, 0, 0), (25, .iaload, 1, 0, 0, 0, 0), (26, .invokevirtual 151, 3, 141, 2, 8, 1111), (29, .aload_n 0, 1, 0, 0, 0, 0), (30, .aload_n 0, 1, 0, 0, 0, 0), (31, .getfield 22, 3, 8, 8, 0, 890), (34, .iload_n 2, 1, 0, 0, 0, 0), (35, .iaload, 1, 0, 0, 0, 0), (36, .aload_n 0, 1, 0, 0, 0, 0), (37, .getfield 25, 3, 8, 9, 0, 891), (40, .iload_n 2, 1, 0, 0, 0, 0), (41, .iaload, 1, 0, 0, 0, 0), (42, .invokevirtual 122, 3, 125, 2, 8, 1018), (45, .invokestatic 186, 3, 151, 2, 0, 1134), (48, .iadd, 1, 0, 0, 0, 0), (49, .istore_n 1, 1, 0, 0, 0, 0), (50, .iinc 2 1, 3, 0, 0, 0, 0), (53, .goto (-49), 3, 4, 0, 0, 0), (56, .iload_n 1, 1, 0, 0, 0, 0), (57, .ireturn, 1, 0, 0, 0, 0)]
def mm_m154 : mm_M := (⟨"LineMapModel", "turns", "()I"⟩, prog_10_method_42_code, 3, some .int, 8, mm_k154, 1144, 1143, 66, 88, 0)
theorem mm_c154 : mm_mchk mm_m154 = true := by decide +kernel
/-- LineMapModel.costOf()I -/
def mm_k155 : List mm_E := [(0, .aload_n 0, 1, 0, 0, 0, 0), (1, .getfield 41, 3, 8, 15, 0, 897), (4, .aload_n 0, 1, 0, 0, 0, 0), (5, .invokevirtual 189, 3, 152, 0, 8, 1130), (8, .imul, 1, 0, 0, 0, 0), (9, .aload_n 0, 1, 0, 0, 0, 0), (10, .getfield 44, 3, 8, 16, 0, 898), (13, .aload_n 0, 1, 0, 0, 0, 0), (14, .invokevirtual 192, 3, 153, 0, 8, 1137), (17, .imul, 1, 0, 0, 0, 0), (18, .iadd, 1, 0, 0, 0, 0), (19, .aload_n 0, 1, 0, 0, 0, 0), (20, .getfield 47, 3, 8, 17, 0, 899), (23, .aload_n 0, 1, 0, 0, 0, 0), (24, .invokevirtual 195, 3, 154, 0, 8, 1141), (27, .imul, 1, 0, 0, 0, 0), (28, .iadd, 1, 0, 0, 0, 0), (29, .ireturn, 1, 0, 0, 0, 0)]
def mm_m155 : mm_M := (⟨"LineMapModel", "costOf", "()I"⟩, prog_10_method_43_code, 1, some .int, 8, mm_k155, 1129, 1128, 63, 88, 0)
theorem mm_c155 : mm_mchk mm_m155 = true := by decide +kernel
/-- LineMapModel.cost(I)I -/
def mm_k156 : List mm_E := [(0, .iload_n 1, 1, 0, 0, 0, 0), (1, .iconst 0, 1, 0, 0, 0, 0), (2, .iconst 3, 1, 0, 0, 0, 0), (3, .invokestatic 90, 3, 114, 3, 0, 983), (6, .ifCond .ne 5, 3, 11, 0, 0, 0), (9, .iconst (-1), 1, 0, 0, 0, 0), (10, .ireturn, 1, 0, 0, 0, 0), (11, .aload_n 0, 1, 0, 0, 0, 0), (12, .invokevirtual 182, 3, 148, 0, 8, 1072), (15, .ifCond .eq 6, 3, 21, 0, 0, 0), (18, .bipush (-6), 2, 0, 0, 0, 0), (20, .ireturn, 1, 0, 0, 0, 0), (21, .iload_n 1, 1, 0, 0, 0, 0), (22, .ifCond .ne 10, 3, 32, 0, 0, 0), (25, .aload_n 0, 1, 0, 0, 0, 0), (26, .invokevirtual 198, 3, 155, 0, 8, 1126), (29, .goto 31, 3, 60, 0, 0, 0), (32, .iload_n 1, 1, 0, 0, 0, 0), (33, .iconst 1, 1, 0, 0, 0, 0), (34, .if_icmp .ne 10, 3, 44, 0, 0, 0), (37, .aload_n 0, 1, 0, 0, 0, 0), (38, .invokevirtual 189, 3, 152, 0, 8, 1130), (41, .goto 19, 3, 60, 0, 0, 0), (44, .iload_n 1, 1, 0, 0, 0, 0), (45, .iconst 2, 1, 0, 0, 0, 0), (46, .if_icmp .ne 10, 3, 56, 0, 0, 0), (49, .aload_n 0, 1, 0, 0, 0, 0), (50, .invokevirtual 192, 3, 153, 0, 8, 1137), (53, .goto 7, 3, 60, 0, 0, 0), (56, .aload_n 0, 1, 0, 0, 0, 0), (57, .invokevirtual 195, 3, 154, 0, 8, 1141), (60, .ireturn, 1, 0, 0, 0, 0)]
def mm_m156 : mm_M := (⟨"LineMapModel", "cost", "(I)I"⟩, prog_10_method_44_code, 2, some .int, 8, mm_k156, 1125, 1123, 1124, 88, 0)
theorem mm_c156 : mm_mchk mm_m156 = true := by decide +kernel
/-- LineMapModel.mayBe(I)Z -/
def mm_k157 : List mm_E := [(0, .iconst 0, 1, 0, 0, 0, 0), (1, .istore_n 2, 1, 0, 0, 0, 0), (2, .iload_n 2, 1, 0, 0, 0, 0), (3, .iload_n 1, 1, 0, 0, 0, 0), (4, .if_icmp .ge 26, 3, 30, 0, 0, 0), (7, .aload_n 0, 1, 0, 0, 0, 0), (8, .getfield 50, 3, 8, 18, 0, 900), (11, .iload_n 2, 1, 0, 0, 0, 0), (12, .iaload, 1, 0, 0, 0, 0), (13, .aload_n 0, 1, 0, 0, 0, 0), (14, .getfield 50, 3, 8, 18, 0, 900), (17, .iload_n 1, 1, 0, 0, 0, 0), (18, .iaload, 1, 0, 0, 0, 0), (19, .if_icmp .ne 5, 3, 24, 0, 0, 0), (22, .iconst 0, 1, 0, 0, 0, 0), (23, .ireturn, 1, 0, 0, 0, 0), (24, .iinc 2 1, 3, 0, 0, 0, 0), (27, .goto (-25), 3, 2, 0, 0, 0), (30, .iconst 0, 1, 0, 0, 0, 0), (31, .istore_n 2, 1, 0, 0, 0, 0), (32, .iload_n 2, 1, 0, 0, 0, 0), (33, .aload_n 0, 1, 0, 0, 0, 0), (34, .getfield 108, 3, 8, 3, 0, 885), (37, .if_icmp .ge 121, 3, 158, 0, 0, 0), (40, .aload_n 0, 1, 0, 0, 0, 0), (41, .getfield 25, 3, 8, 9, 0, 891), (44, .iload_n 2, 1, 0, 0, 0, 0), (45, .iaload, 1, 0, 0, 0, 0), (46, .iload_n 1, 1, 0, 0, 0, 0), (47, .if_icmp .le 6, 3, 53, 0, 0, 0), (50, .goto 102, 3, 152, 0, 0, 0), (53, .aload_n 0, 1, 0, 0, 0, 0), (54, .aload_n 0, 1, 0, 0, 0, 0), (55, .getfield 22, 3, 8, 8, 0, 890), (58, .iload_n 2, 1, 0, 0, 0, 0), (59, .iaload, 1, 0, 0, 0, 0), (60, .aload_n 0, 1, 0, 0, 0, 0), (61, .getfield 25, 3, 8, 9, 0, 891), (64, .iload_n 2, 1, 0, 0, 0, 0), (65, .iaload, 1, 0, 0, 0, 0), (66, .invokevirtual 169, 3, 139, 2, 8, 1080), (69, .ifCond .eq 26, 3, 95, 0, 0, 0), (72, .aload_n 0, 1, 0, 0, 0, 0), (73, .aload_n 0, 1, 0, 0, 0, 0), (74, .getfield 22, 3, 8, 8, 0, 890), (77, .iload_n 2, 1, 0, 0, 0, 0), (78, .iaload, 1, 0, 0, 0, 0), (79, .aload_n 0, 1, 0, 0, 0, 0), (80, .getfield 25, 3, 8, 9, 0, 891), (83, .iload_n 2, 1, 0, 0, 0, 0), (84, .iaload, 1, 0, 0, 0, 0), (85, .invokevirtual 172, 3, 140, 2, 8, 1092), (88, .aload_n 0, 1, 0, 0, 0, 0), (89, .getfield 38, 3, 8, 14, 0, 896), (92, .if_icmp .ge 5, 3, 97, 0, 0, 0), (95, .iconst 0, 1, 0, 0, 0, 0), (96, .ireturn, 1, 0, 0, 0, 0), (97, .iconst 0, 1, 0, 0, 0, 0), (98, .istore_n 3, 1, 0, 0, 0, 0), (99, .iload_n 3, 1, 0, 0, 0, 0), (100, .iload_n 1, 1, 0, 0, 0, 0), (101, .if_icmp .gt 51, 3, 152, 0, 0, 0), (104, .iload_n 3, 1, 0, 0, 0, 0), (105, .aload_n 0, 1, 0, 0, 0, 0), (106, .getfield 22, 3, 8, 8, 0, 890), (109, .iload_n 2, 1, 0, 0, 0, 0), (110, .iaload, 1, 0, 0, 0, 0), (111, .if_icmp .eq 35, 3, 146, 0, 0, 0), (114, .iload_n 3, 1, 0, 0, 0, 0), (115, .aload_n 0, 1, 0, 0, 0, 0), (116, .getfield 25, 3, 8, 9, 0, 891), (119, .iload_n 2, 1, 0, 0, 0, 0), (120, .iaload, 1, 0, 0, 0, 0), (121, .if_icmp .eq 25, 3, 146, 0, 0, 0), (124, .aload_n 0, 1, 0, 0, 0, 0), (125, .iload_n 3, 1, 0, 0, 0, 0), (126, .aload_n 0, 1, 0, 0, 0, 0), (127, .getfield 22, 3, 8, 8, 0, 890), (130, .iload_n 2, 1, 0, 0, 0, 0), (131, .iaload, 1, 0, 0, 0, 0), (132, .aload_n 0, 1, 0, 0, 0, 0), (133, .getfield 25, 3, 8, 9, 0, 891), (136, .iload_n 2, 1, 0, 0, 0, 0), (137, .iaload, 1, 0, 0, 0, 0), (138, .invokevirtual 157, 3, 144, 3, 8, 1096), (141, .ifCond .eq 5, 3, 146, 0, 0, 0), (144, .iconst 0, 1, 0, 0, 0, 0), (145, .ireturn, 1, 0, 0, 0, 0), (146, .iinc 3 1, 3, 0, 0, 0, 0), (149, .goto (-50), 3, 99, 0, 0, 0), (152, .iinc 2 1, 3, 0, 0, 0, 0), (155, .goto (-123), 3, 32, 0, 0, 0), (158, .iconst 1, 1, 0, 0, 0, 0), (159, .ireturn, 1, 0, 0, 0, 0)]
def mm_m157 : mm_M := (⟨"LineMapModel", "mayBe", "(I)Z"⟩, prog_10_method_45_code, 4, some .boolean, 8, mm_k157, 1160, 1159, 69, 88, 0)
theorem mm_c157 : mm_mchk mm_m157 = true := by decide +kernel
/-- LineMapModel.costTo(I)I -/
def mm_k158 : List mm_E := [(0, .iconst 0, 1, 0, 0, 0, 0), (1, .istore_n 2, 1, 0, 0, 0, 0), (2, .iconst 0, 1, 0, 0, 0, 0), (3, .istore_n 3, 1, 0, 0, 0, 0), (4, .iload_n 3, 1, 0, 0, 0, 0), (5, .aload_n 0, 1, 0, 0, 0, 0), (6, .getfield 108, 3, 8, 3, 0, 885), (9, .if_icmp .ge 99, 3, 108, 0, 0, 0), (12, .aload_n 0, 1, 0, 0, 0, 0), (13, .getfield 25, 3, 8, 9, 0, 891), (16, .iload_n 3, 1, 0, 0, 0, 0), (17, .iaload, 1, 0, 0, 0, 0), (18, .iload_n 1, 1, 0, 0, 0, 0), (19, .if_icmp .le 18, 3, 37, 0, 0, 0), (22, .iload_n 2, 1, 0, 0, 0, 0), (23, .aload_n 0, 1, 0, 0, 0, 0), (24, .getfield 44, 3, 8, 16, 0, 898), (27, .aload_n 0, 1, 0, 0, 0, 0), (28, .getfield 38, 3, 8, 14, 0, 896), (31, .imul, 1, 0, 0, 0, 0), (32, .iadd, 1, 0, 0, 0, 0), (33, .istore_n 2, 1, 0, 0, 0, 0), (34, .goto 68, 3, 102, 0, 0, 0), (37, .iload_n 2, 1, 0, 0, 0, 0), (38, .aload_n 0, 1, 0, 0, 0, 0), (39, .getfield 44, 3, 8, 16, 0, 898), (42, .aload_n 0, 1, 0, 0, 0, 0), (43, .aload_n 0, 1, 0, 0, 0, 0), (44, .getfield 22, 3, 8, 8, 0, 890), (47, .iload_n 3, 1, 0, 0, 0, 0), (48, .iaload, 1, 0, 0, 0, 0), (49, .aload_n 0, 1, 0, 0, 0, 0), (50, .getfield 25, 3, 8, 9, 0, 891), (53, .iload_n 3, 1, 0, 0, 0, 0), (54, .iaload, 1, 0, 0, 0, 0), (55, .invokevirtual 172, 3, 140, 2, 8, 1092), (58, .imul, 1, 0, 0, 0, 0), (59, .aload_n 0, 1, 0, 0, 0, 0), (60, .getfield 47, 3, 8, 17, 0, 899), (63, .aload_n 0, 1, 0, 0, 0, 0), (64, .aload_n 0, 1, 0, 0, 0, 0), (65, .getfield 22, 3, 8, 8, 0, 890), (68, .iload_n 3, 1, 0, 0, 0, 0), (69, .iaload, 1, 0, 0, 0, 0), (70, .aload_n 0, 1, 0, 0, 0, 0), (71, .getfield 25, 3, 8, 9, 0, 891), (74, .iload_n 3, 1, 0, 0, 0, 0), (75, .iaload, 1, 0, 0, 0, 0), (76, .invokevirtual 151, 3, 141, 2, 8, 1111), (79, .aload_n 0, 1, 0, 0, 0, 0), (80, .aload_n 0, 1, 0, 0, 0, 0), (81, .getfield 22, 3, 8, 8, 0, 890), (84, .iload_n 3, 1, 0, 0, 0, 0), (85, .iaload, 1, 0, 0, 0, 0), (86, .aload_n 0, 1, 0, 0, 0, 0), (87, .getfield 25, 3, 8, 9, 0, 891), (90, .iload_n 3, 1, 0, 0, 0, 0), (91, .iaload, 1, 0, 0, 0, 0), (92, .invokevirtual 122, 3, 125, 2, 8, 1018), (95, .invokestatic 186, 3, 151, 2, 0, 1134), (98, .imul, 1, 0, 0, 0, 0), (99, .iadd, 1, 0, 0, 0, 0), (100, .iadd, 1, 0, 0, 0, 0), (101, .istore_n 2, 1, 0, 0, 0, 0), (102, .iinc 3 1, 3, 0, 0, 0, 0), (105, .goto (-101), 3, 4, 0, 0, 0), (108, .iload_n 2, 1, 0, 0, 0, 0), (109, .ireturn, 1, 0, 0, 0, 0)]
def mm_m158 : mm_M := (⟨"LineMapModel", "costTo", "(I)I"⟩, prog_10_method_46_code, 4, some .int, 8, mm_k158, 1164, 1163, 70, 88, 0)
theorem mm_c158 : mm_mchk mm_m158 = true := by decide +kernel
/-- LineMapModel.best()I -/
def mm_k159 : List mm_E := [(0, .aload_n 0, 1, 0, 0, 0, 0), (1, .getfield 87, 3, 8, 1, 0, 883), (4, .iconst 5, 1, 0, 0, 0, 0), (5, .if_icmp .gt 17, 3, 22, 0, 0, 0), (8, .aload_n 0, 1, 0, 0, 0, 0), (9, .getfield 31, 3, 8, 12, 0, 894), (12, .aload_n 0, 1, 0, 0, 0, 0), (13, .getfield 35, 3, 8, 13, 0, 895), (16, .imul, 1, 0, 0, 0, 0), (17, .bipush 25, 2, 0, 0, 0, 0), (19, .if_icmp .le 10, 3, 29, 0, 0, 0), (22, .aload_n 0, 1, 0, 0, 0, 0), (23, .bipush (-5), 2, 0, 0, 0, 0), (25, .invokevirtual 94, 3, 115, 1, 8, 986), (28, .ireturn, 1, 0, 0, 0, 0), (29, .iconst 0, 1, 0, 0, 0, 0), (30, .istore_n 1, 1, 0, 0, 0, 0), (31, .iload_n 1, 1, 0, 0, 0, 0), (32, .aload_n 0, 1, 0, 0, 0, 0), (33, .getfield 87, 3, 8, 1, 0, 883), (36, .if_icmp .ge 21, 3, 57, 0, 0, 0), (39, .aload_n 0, 1, 0, 0, 0, 0), (40, .getfield 60, 3, 8, 23, 0, 905), (43, .iload_n 1, 1, 0, 0, 0, 0), (44, .aload_n 0, 1, 0, 0, 0, 0), (45, .getfield 50, 3, 8, 18, 0, 900), (48, .iload_n 1, 1, 0, 0, 0, 0), (49, .iaload, 1, 0, 0, 0, 0), (50, .iastore, 1, 0, 0, 0, 0), (51, .iinc 1 1, 3, 0, 0, 0, 0), (54, .goto (-23), 3, 31, 0, 0, 0), (57, .iconst (-1), 1, 0, 0, 0, 0), (58, .istore_n 1, 1, 0, 0, 0, 0), (59, .iconst 0, 1, 0, 0, 0, 0), (60, .istore_n 2, 1, 0, 0, 0, 0), (61, .aload_n 0, 1, 0, 0, 0, 0), (62, .getfield 87, 3, 8, 1, 0, 883), (65, .ifCond .ne 5, 3, 70, 0, 0, 0), (68, .iconst 0, 1, 0, 0, 0, 0), (69, .istore_n 1, 1, 0, 0, 0, 0), (70, .aload_n 0, 1, 0, 0, 0, 0), (71, .iconst 0, 1, 0, 0, 0, 0), (72, .invokevirtual 201, 3, 160, 1, 8, 1149), (75, .iload_n 2, 1, 0, 0, 0, 0), (76, .ifCond .lt 129, 3, 205, 0, 0, 0), (79, .aload_n 0, 1, 0, 0, 0, 0), (80, .getfield 87, 3, 8, 1, 0, 883), (83, .ifCond .le 122, 3, 205, 0, 0, 0), (86, .aload_n 0, 1, 0, 0, 0, 0), (87, .iload_n 2, 1, 0, 0, 0, 0), (88, .invokevirtual 204, 3, 161, 1, 8, 1153), (91, .ifCond .ne 9, 3, 100, 0, 0, 0), (94, .iinc 2 (-1), 3, 0, 0, 0, 0), (97, .goto (-22), 3, 75, 0, 0, 0), (100, .aload_n 0, 1, 0, 0, 0, 0), (101, .iload_n 2, 1, 0, 0, 0, 0), (102, .invokevirtual 207, 3, 157, 1, 8, 1157), (105, .ifCond .eq (-30), 3, 75, 0, 0, 0), (108, .iload_n 1, 1, 0, 0, 0, 0), (109, .iconst (-1), 1, 0, 0, 0, 0), (110, .if_icmp .eq 15, 3, 125, 0, 0, 0), (113, .aload_n 0, 1, 0, 0, 0, 0), (114, .iload_n 2, 1, 0, 0, 0, 0), (115, .invokevirtual 210, 3, 158, 1, 8, 1161), (118, .iload_n 1, 1, 0, 0, 0, 0), (119, .if_icmp .lt 6, 3, 125, 0, 0, 0), (122, .goto (-47), 3, 75, 0, 0, 0), (125, .iload_n 2, 1, 0, 0, 0, 0), (126, .iconst 1, 1, 0, 0, 0, 0), (127, .iadd, 1, 0, 0, 0, 0), (128, .aload_n 0, 1, 0, 0, 0, 0), (129, .getfield 87, 3, 8, 1, 0, 883), (132, .if_icmp .ge 14, 3, 146, 0, 0, 0), (135, .iinc 2 1, 3, 0, 0, 0, 0), (138, .aload_n 0, 1, 0, 0, 0, 0), (139, .iload_n 2, 1, 0, 0, 0, 0), (140, .invokevirtual 201, 3, 160, 1, 8, 1149), (143, .goto (-68), 3, 75, 0, 0, 0), (146, .aload_n 0, 1, 0, 0, 0, 0), (147, .invokevirtual 182, 3, 148, 0, 8, 1072), (150, .ifCond .ne (-75), 3, 75, 0, 0, 0), (153, .iload_n 1, 1, 0, 0, 0, 0), (154, .iconst (-1), 1, 0, 0, 0, 0), (155, .if_icmp .eq 14, 3, 169, 0, 0, 0), (158, .aload_n 0, 1, 0, 0, 0, 0), (159, .invokevirtual 198, 3, 155, 0, 8, 1126), (162, .iload_n 1, 1, 0, 0, 0, 0), (163, .if_icmp .lt 6, 3, 169, 0, 0, 0), (166, .goto (-91), 3, 75, 0, 0, 0), (169, .aload_n 0, 1, 0, 0, 0, 0), (170, .invokevirtual 198, 3, 155, 0, 8, 1126), (173, .istore_n 1, 1, 0, 0, 0, 0), (174, .iconst 0, 1, 0, 0, 0, 0), (175, .istore_n 3, 1, 0, 0, 0, 0), (176, .iload_n 3, 1, 0, 0, 0, 0), (177, .aload_n 0, 1, 0, 0, 0, 0), (178, .getfield 87, 3, 8, 1, 0, 883), (181, .if_icmp .ge 21, 3, 202, 0, 0, 0), (184, .aload_n 0, 1, 0, 0, 0, 0), (185, .getfield 63, 3, 8, 24, 0, 906), (188, .iload_n 3, 1, 0, 0, 0, 0), (189, .aload_n 0, 1, 0, 0, 0, 0), (190, .getfield 50, 3, 8, 18, 0, 900), (193, .iload_n 3, 1, 0, 0, 0, 0), (194, .iaload, 1, 0, 0, 0, 0), (195, .iastore, 1, 0, 0, 0, 0), (196, .iinc 3 1, 3, 0, 0, 0, 0), (199, .goto (-23), 3, 176, 0, 0, 0), (202, .goto (-127), 3, 75, 0, 0, 0), (205, .iconst 0, 1, 0, 0, 0, 0), (206, .istore_n 3, 1, 0, 0, 0, 0), (207, .iload_n 3, 1, 0, 0, 0, 0), (208, .aload_n 0, 1, 0, 0, 0, 0), (209, .getfield 87, 3, 8, 1, 0, 883), (212, .if_icmp .ge 35, 3, 247, 0, 0, 0), (215, .aload_n 0, 1, 0, 0, 0, 0), (216, .getfield 50, 3, 8, 18, 0, 900), (219, .iload_n 3, 1, 0, 0, 0, 0), (220, .iload_n 1, 1, 0, 0, 0, 0), (221, .iconst (-1), 1, 0, 0, 0, 0), (222, .if_icmp .ne 12, 3, 234, 0, 0, 0), (225, .aload_n 0, 1, 0, 0, 0, 0), (226, .getfield 60, 3, 8, 23, 0, 905), (229, .iload_n 3, 1, 0, 0, 0, 0), (230, .iaload, 1, 0, 0, 0, 0), (231, .goto 9, 3, 240, 0, 0, 0), (234, .aload_n 0, 1, 0, 0, 0, 0), (235, .getfield 63, 3, 8, 24, 0, 906), (238, .iload_n 3, 1, 0, 0, 0, 0), (239, .iaload, 1, 0, 0, 0, 0), (240, .iastore, 1, 0, 0, 0, 0), (241, .iinc 3 1, 3, 0, 0, 0, 0), (244, .goto (-37), 3, 207, 0, 0, 0), (247, .aload_n 0, 1, 0, 0, 0, 0), (248, .iload_n 1, 1, 0, 0, 0, 0), (249, .iconst (-1), 1, 0, 0, 0, 0), (250, .if_icmp .ne 8, 3, 258, 0, 0, 0), (253, .bipush (-6), 2, 0, 0, 0, 0), (255, .goto 4, 3, 259, 0, 0, 0), (258, .iload_n 1, 1, 0, 0, 0, 0), (259, .invokevirtual 94, 3, 115, 1, 8, 986), (262, .ireturn, 1, 0, 0, 0, 0)]
def mm_m159 : mm_M := (⟨"LineMapModel", "best", "()I"⟩, prog_10_method_47_code, 4, some .int, 8, mm_k159, 1148, 1146, 1147, 88, 0)
theorem mm_c159 : mm_mchk mm_m159 = true := by decide +kernel
/-- LineMapModel.begins(I)V -/
def mm_k160 : List mm_E := [(0, .aload_n 0, 1, 0, 0, 0, 0), (1, .getfield 66, 3, 8, 25, 0, 907), (4, .iload_n 1, 1, 0, 0, 0, 0), (5, .iconst 0, 1, 0, 0, 0, 0), (6, .bastore, 1, 0, 0, 0, 0), (7, .aload_n 0, 1, 0, 0, 0, 0), (8, .getfield 50, 3, 8, 18, 0, 900), (11, .iload_n 1, 1, 0, 0, 0, 0), (12, .aload_n 0, 1, 0, 0, 0, 0), (13, .getfield 53, 3, 8, 19, 0, 901), (16, .iload_n 1, 1, 0, 0, 0, 0), (17, .baload, 1, 0, 0, 0, 0), (18, .ifCond .eq 12, 3, 30, 0, 0, 0), (21, .aload_n 0, 1, 0, 0, 0, 0), (22, .getfield 60, 3, 8, 23, 0, 905), (25, .iload_n 1, 1, 0, 0, 0, 0), (26, .iaload, 1, 0, 0, 0, 0), (27, .goto 4, 3, 31, 0, 0, 0), (30, .iconst (-1), 1, 0, 0, 0, 0), (31, .iastore, 1, 0, 0, 0, 0), (32, .return_, 1, 0, 0, 0, 0)]
def mm_m160 : mm_M := (⟨"LineMapModel", "begins", "(I)V"⟩, prog_10_method_48_code, 2, none, 8, mm_k160, 1152, 1151, 67, 88, 0)
theorem mm_c160 : mm_mchk mm_m160 = true := by decide +kernel
/-- LineMapModel.steps(I)Z -/
def mm_k161 : List mm_E := [(0, .aload_n 0, 1, 0, 0, 0, 0), (1, .getfield 53, 3, 8, 19, 0, 901), (4, .iload_n 1, 1, 0, 0, 0, 0), (5, .baload, 1, 0, 0, 0, 0), (6, .ifCond .eq 27, 3, 33, 0, 0, 0), (9, .aload_n 0, 1, 0, 0, 0, 0), (10, .getfield 66, 3, 8, 25, 0, 907), (13, .iload_n 1, 1, 0, 0, 0, 0), (14, .baload, 1, 0, 0, 0, 0), (15, .ifCond .ne 7, 3, 22, 0, 0, 0), (18, .iconst 1, 1, 0, 0, 0, 0), (19, .goto 4, 3, 23, 0, 0, 0), (22, .iconst 0, 1, 0, 0, 0, 0), (23, .istore_n 2, 1, 0, 0, 0, 0), (24, .aload_n 0, 1, 0, 0, 0, 0), (25, .getfield 66, 3, 8, 25, 0, 907), (28, .iload_n 1, 1, 0, 0, 0, 0), (29, .iconst 1, 1, 0, 0, 0, 0), (30, .bastore, 1, 0, 0, 0, 0), (31, .iload_n 2, 1, 0, 0, 0, 0), (32, .ireturn, 1, 0, 0, 0, 0), (33, .aload_n 0, 1, 0, 0, 0, 0), (34, .getfield 50, 3, 8, 18, 0, 900), (37, .iload_n 1, 1, 0, 0, 0, 0), (38, .dup2, 1, 0, 0, 0, 0), (39, .iaload, 1, 0, 0, 0, 0), (40, .iconst 1, 1, 0, 0, 0, 0), (41, .iadd, 1, 0, 0, 0, 0), (42, .iastore, 1, 0, 0, 0, 0), (43, .aload_n 0, 1, 0, 0, 0, 0), (44, .getfield 50, 3, 8, 18, 0, 900), (47, .iload_n 1, 1, 0, 0, 0, 0), (48, .iaload, 1, 0, 0, 0, 0), (49, .aload_n 0, 1, 0, 0, 0, 0), (50, .getfield 31, 3, 8, 12, 0, 894), (53, .aload_n 0, 1, 0, 0, 0, 0), (54, .getfield 35, 3, 8, 13, 0, 895), (57, .imul, 1, 0, 0, 0, 0), (58, .if_icmp .ge 7, 3, 65, 0, 0, 0), (61, .iconst 1, 1, 0, 0, 0, 0), (62, .goto 4, 3, 66, 0, 0, 0), (65, .iconst 0, 1, 0, 0, 0, 0), (66, .ireturn, 1, 0, 0, 0, 0)]
def mm_m161 : mm_M := (⟨"LineMapModel", "steps", "(I)Z"⟩, prog_10_method_49_code, 3, some .boolean, 8, mm_k161, 1156, 1155, 68, 88, 0)
theorem mm_c161 : mm_mchk mm_m161 = true := by decide +kernel
/-- LineMapModel.better()I -/
def mm_k162 : List mm_E := [(0, .aload_n 0, 1, 0, 0, 0, 0), (1, .invokevirtual 182, 3, 148, 0, 8, 1072), (4, .ifCond .eq 10, 3, 14, 0, 0, 0), (7, .aload_n 0, 1, 0, 0, 0, 0), (8, .bipush (-6), 2, 0, 0, 0, 0), (10, .invokevirtual 94, 3, 115, 1, 8, 986), (13, .ireturn, 1, 0, 0, 0, 0), (14, .iconst 0, 1, 0, 0, 0, 0), (15, .istore_n 1, 1, 0, 0, 0, 0), (16, .iload_n 1, 1, 0, 0, 0, 0), (17, .bipush 50, 2, 0, 0, 0, 0), (19, .if_icmp .ge 16, 3, 35, 0, 0, 0), (22, .aload_n 0, 1, 0, 0, 0, 0), (23, .invokevirtual 213, 3, 163, 0, 8, 1169), (26, .ifCond .eq 9, 3, 35, 0, 0, 0), (29, .iinc 1 1, 3, 0, 0, 0, 0), (32, .goto (-16), 3, 16, 0, 0, 0), (35, .aload_n 0, 1, 0, 0, 0, 0), (36, .iload_n 1, 1, 0, 0, 0, 0), (37, .invokevirtual 94, 3, 115, 1, 8, 986), (40, .ireturn, 1, 0, 0, 0, 0)]
def mm_m162 : mm_M := (⟨"LineMapModel", "better", "()I"⟩, prog_10_method_50_code, 2, some .int, 8, mm_k162, 1168, 1166, 1167, 88, 0)
theorem mm_c162 : mm_mchk mm_m162 = true := by decide +kernel
/-- LineMapModel.changes()Z -/
def mm_k163 : List mm_E := [(0, .aload_n 0, 1, 0, 0, 0, 0), (1, .invokevirtual 198, 3, 155, 0, 8, 1126), (4, .istore_n 1, 1, 0, 0, 0, 0), (5, .iconst (-1), 1, 0, 0, 0, 0), (6, .istore_n 2, 1, 0, 0, 0, 0), (7, .iconst (-1), 1, 0, 0, 0, 0), (8, .istore_n 3, 1, 0, 0, 0, 0), (9, .iconst 0, 1, 0, 0, 0, 0), (10, .istore 4, 2, 0, 0, 0, 0), (12, .iload 4, 2, 0, 0, 0, 0), (14, .aload_n 0, 1, 0, 0, 0, 0), (15, .getfield 87, 3, 8, 1, 0, 883), (18, .if_icmp .ge 108, 3, 126, 0, 0, 0), (21, .aload_n 0, 1, 0, 0, 0, 0), (22, .getfield 50, 3, 8, 18, 0, 900), (25, .iload 4, 2, 0, 0, 0, 0), (27, .iaload, 1, 0, 0, 0, 0), (28, .istore 5, 2, 0, 0, 0, 0), (30, .iconst 0, 1, 0, 0, 0, 0), (31, .istore 6, 2, 0, 0, 0, 0), (33, .iload 6, 2, 0, 0, 0, 0), (35, .aload_n 0, 1, 0, 0, 0, 0), (36, .getfield 31, 3, 8, 12, 0, 894), (39, .aload_n 0, 1, 0, 0, 0, 0), (40, .getfield 35, 3, 8, 13, 0, 895), (43, .imul, 1, 0, 0, 0, 0), (44, .if_icmp .ge 67, 3, 111, 0, 0, 0), (47, .aload_n 0, 1, 0, 0, 0, 0), (48, .getfield 53, 3, 8, 19, 0, 901), (51, .iload 4, 2, 0, 0, 0, 0), (53, .baload, 1, 0, 0, 0, 0), (54, .ifCond .ne 57, 3, 111, 0, 0, 0), (57, .iload 6, 2, 0, 0, 0, 0), (59, .iload 5, 2, 0, 0, 0, 0), (61, .if_icmp .ne 6, 3, 67, 0, 0, 0), (64, .goto 41, 3, 105, 0, 0, 0), (67, .aload_n 0, 1, 0, 0, 0, 0), (68, .getfield 50, 3, 8, 18, 0, 900), (71, .iload 4, 2, 0, 0, 0, 0), (73, .iload 6, 2, 0, 0, 0, 0), (75, .iastore, 1, 0, 0, 0, 0), (76, .aload_n 0, 1, 0, 0, 0, 0), (77, .invokevirtual 182, 3, 148, 0, 8, 1072), (80, .ifCond .ne 25, 3, 105, 0, 0, 0), (83, .aload_n 0, 1, 0, 0, 0, 0), (84, .invokevirtual 198, 3, 155, 0, 8, 1126), (87, .iload_n 1, 1, 0, 0, 0, 0), (88, .if_icmp .lt 6, 3, 94, 0, 0, 0), (91, .goto 14, 3, 105, 0, 0, 0), (94, .aload_n 0, 1, 0, 0, 0, 0), (95, .invokevirtual 198, 3, 155, 0, 8, 1126), (98, .istore_n 1, 1, 0, 0, 0, 0), (99, .iload 4, 2, 0, 0, 0, 0), (101, .istore_n 2, 1, 0, 0, 0, 0), (102, .iload 6, 2, 0, 0, 0, 0), (104, .istore_n 3, 1, 0, 0, 0, 0), (105, .iinc 6 1, 3, 0, 0, 0, 0), (108, .goto (-75), 3, 33, 0, 0, 0), (111, .aload_n 0, 1, 0, 0, 0, 0), (112, .getfield 50, 3, 8, 18, 0, 900), (115, .iload 4, 2, 0, 0, 0, 0), (117, .iload 5, 2, 0, 0, 0, 0), (119, .iastore, 1, 0, 0, 0, 0), (120, .iinc 4 1, 3, 0, 0, 0, 0), (123, .goto (-111), 3, 12, 0, 0, 0), (126, .iload_n 2, 1, 0, 0, 0, 0), (127, .iconst (-1), 1, 0, 0, 0, 0), (128, .if_icmp .eq 10, 3, 138, 0, 0, 0), (131, .aload_n 0, 1, 0, 0, 0, 0), (132, .getfield 50, 3, 8, 18, 0, 900), (135, .iload_n 2, 1, 0, 0, 0, 0), (136, .iload_n 3, 1, 0, 0, 0, 0), (137, .iastore, 1, 0, 0, 0, 0), (138, .iload_n 2, 1, 0, 0, 0, 0), (139, .iconst (-1), 1, 0, 0, 0, 0), (140, .if_icmp .eq 7, 3, 147, 0, 0, 0), (143, .iconst 1, 1, 0, 0, 0, 0), (144, .goto 4, 3, 148, 0, 0, 0), (147, .iconst 0, 1, 0, 0, 0, 0), (148, .ireturn, 1, 0, 0, 0, 0)]
def mm_m163 : mm_M := (⟨"LineMapModel", "changes", "()Z"⟩, prog_10_method_51_code, 7, some .boolean, 8, mm_k163, 1172, 1171, 71, 88, 0)
theorem mm_c163 : mm_mchk mm_m163 = true := by decide +kernel
/-- LineMapModel.name(II)I -/
def mm_k164 : List mm_E := [(0, .iload_n 2, 1, 0, 0, 0, 0), (1, .iconst 0, 1, 0, 0, 0, 0), (2, .bipush 12, 2, 0, 0, 0, 0), (4, .invokestatic 90, 3, 114, 3, 0, 983), (7, .ifCond .ne 9, 3, 16, 0, 0, 0), (10, .aload_n 0, 1, 0, 0, 0, 0), (11, .iconst (-1), 1, 0, 0, 0, 0), (12, .invokevirtual 94, 3, 115, 1, 8, 986), (15, .ireturn, 1, 0, 0, 0, 0), (16, .aload_n 0, 1, 0, 0, 0, 0), (17, .iload_n 1, 1, 0, 0, 0, 0), (18, .invokevirtual 101, 3, 116, 1, 8, 998), (21, .ifCond .ne 10, 3, 31, 0, 0, 0), (24, .aload_n 0, 1, 0, 0, 0, 0), (25, .bipush (-2), 2, 0, 0, 0, 0), (27, .invokevirtual 94, 3, 115, 1, 8, 986), (30, .ireturn, 1, 0, 0, 0, 0), (31, .aload_n 0, 1, 0, 0, 0, 0), (32, .getfield 57, 3, 8, 20, 0, 902), (35, .iload_n 1, 1, 0, 0, 0, 0), (36, .iaload, 1, 0, 0, 0, 0), (37, .istore_n 3, 1, 0, 0, 0, 0), (38, .aload_n 0, 1, 0, 0, 0, 0), (39, .getfield 57, 3, 8, 20, 0, 902), (42, .iload_n 1, 1, 0, 0, 0, 0), (43, .iload_n 2, 1, 0, 0, 0, 0), (44, .iastore, 1, 0, 0, 0, 0), (45, .aload_n 0, 1, 0, 0, 0, 0), (46, .iload_n 3, 1, 0, 0, 0, 0), (47, .invokevirtual 94, 3, 115, 1, 8, 986), (50, .ireturn, 1, 0, 0, 0, 0)]
def mm_m164 : mm_M := (⟨"LineMapModel", "name", "(II)I"⟩, prog_10_method_52_code, 4, some .int, 8, mm_k164, 1176, 1174, 1175, 88, 0)
theorem mm_c164 : mm_mchk mm_m164 = true := by decide +kernel
/-- LineMapModel.nameX(II)I -/
def mm_k165 : List mm_E := [(0, .aload_n 0, 1, 0, 0, 0, 0), (1, .getfield 57, 3, 8, 20, 0, 902), (4, .iload_n 1, 1, 0, 0, 0, 0), (5, .iaload, 1, 0, 0, 0, 0), (6, .istore_n 3, 1, 0, 0, 0, 0), (7, .iconst 4, 1, 0, 0, 0, 0), (8, .aload_n 0, 1, 0, 0, 0, 0), (9, .iload_n 1, 1, 0, 0, 0, 0), (10, .invokevirtual 138, 3, 137, 1, 8, 1084), (13, .imul, 1, 0, 0, 0, 0), (14, .iload_n 2, 1, 0, 0, 0, 0), (15, .ifCond .eq 14, 3, 29, 0, 0, 0), (18, .iload_n 2, 1, 0, 0, 0, 0), (19, .iconst 1, 1, 0, 0, 0, 0), (20, .if_icmp .eq 9, 3, 29, 0, 0, 0), (23, .iload_n 2, 1, 0, 0, 0, 0), (24, .bipush 7, 2, 0, 0, 0, 0), (26, .if_icmp .ne 7, 3, 33, 0, 0, 0), (29, .iconst 1, 1, 0, 0, 0, 0), (30, .goto 23, 3, 53, 0, 0, 0), (33, .iload_n 2, 1, 0, 0, 0, 0), (34, .iconst 2, 1, 0, 0, 0, 0), (35, .if_icmp .eq 9, 3, 44, 0, 0, 0), (38, .iload_n 2, 1, 0, 0, 0, 0), (39, .bipush 6, 2, 0, 0, 0, 0), (41, .if_icmp .ne 10, 3, 51, 0, 0, 0), (44, .iload_n 3, 1, 0, 0, 0, 0), (45, .iconst 2, 1, 0, 0, 0, 0), (46, .idiv, 1, 0, 0, 0, 0), (47, .ineg, 1, 0, 0, 0, 0), (48, .goto 5, 3, 53, 0, 0, 0), (51, .iload_n 3, 1, 0, 0, 0, 0), (52, .ineg, 1, 0, 0, 0, 0), (53, .iadd, 1, 0, 0, 0, 0), (54, .ireturn, 1, 0, 0, 0, 0)]
def mm_m165 : mm_M := (⟨"LineMapModel", "nameX", "(II)I"⟩, prog_10_method_53_code, 4, some .int, 8, mm_k165, 1188, 1187, 73, 88, 0)
theorem mm_c165 : mm_mchk mm_m165 = true := by decide +kernel
/-- LineMapModel.nameY(II)I -/
def mm_k166 : List mm_E := [(0, .iconst 4, 1, 0, 0, 0, 0), (1, .aload_n 0, 1, 0, 0, 0, 0), (2, .iload_n 1, 1, 0, 0, 0, 0), (3, .invokevirtual 141, 3, 138, 1, 8, 1088), (6, .imul, 1, 0, 0, 0, 0), (7, .iload_n 2, 1, 0, 0, 0, 0), (8, .ifCond .eq 8, 3, 16, 0, 0, 0), (11, .iload_n 2, 1, 0, 0, 0, 0), (12, .iconst 4, 1, 0, 0, 0, 0), (13, .if_icmp .ne 7, 3, 20, 0, 0, 0), (16, .iconst 0, 1, 0, 0, 0, 0), (17, .goto 13, 3, 30, 0, 0, 0), (20, .iload_n 2, 1, 0, 0, 0, 0), (21, .iconst 4, 1, 0, 0, 0, 0), (22, .if_icmp .ge 7, 3, 29, 0, 0, 0), (25, .iconst 1, 1, 0, 0, 0, 0), (26, .goto 4, 3, 30, 0, 0, 0), (29, .iconst (-1), 1, 0, 0, 0, 0), (30, .iadd, 1, 0, 0, 0, 0), (31, .ireturn, 1, 0, 0, 0, 0)]
def mm_m166 : mm_M := (⟨"LineMapModel", "nameY", "(II)I"⟩, prog_10_method_54_code, 3, some .int, 8, mm_k166, 1192, 1191, 74, 88, 0)
theorem mm_c166 : mm_mchk mm_m166 = true := by decide +kernel
/-- LineMapModel.isOnStation(III)Z -/
def mm_k167 : List mm_E := [(0, .iload_n 1, 1, 0, 0, 0, 0), (1, .iconst 4, 1, 0, 0, 0, 0), (2, .aload_n 0, 1, 0, 0, 0, 0), (3, .iload_n 3, 1, 0, 0, 0, 0), (4, .invokevirtual 138, 3, 137, 1, 8, 1084), (7, .imul, 1, 0, 0, 0, 0), (8, .if_icmp .ne 18, 3, 26, 0, 0, 0), (11, .iload_n 2, 1, 0, 0, 0, 0), (12, .iconst 4, 1, 0, 0, 0, 0), (13, .aload_n 0, 1, 0, 0, 0, 0), (14, .iload_n 3, 1, 0, 0, 0, 0), (15, .invokevirtual 141, 3, 138, 1, 8, 1088), (18, .imul, 1, 0, 0, 0, 0), (19, .if_icmp .ne 7, 3, 26, 0, 0, 0), (22, .iconst 1, 1, 0, 0, 0, 0), (23, .goto 4, 3, 27, 0, 0, 0), (26, .iconst 0, 1, 0, 0, 0, 0), (27, .ireturn, 1, 0, 0, 0, 0)]
def mm_m167 : mm_M := (⟨"LineMapModel", "isOnStation", "(III)Z"⟩, prog_10_method_55_code, 4, some .boolean, 8, mm_k167, 1196, 1195, 75, 88, 0)
theorem mm_c167 : mm_mchk mm_m167 = true := by decide +kernel
/-- LineMapModel.isOnEdge(III)Z -/
def mm_k168 : List mm_E := [(0, .iconst 4, 1, 0, 0, 0, 0), (1, .aload_n 0, 1, 0, 0, 0, 0), (2, .aload_n 0, 1, 0, 0, 0, 0), (3, .getfield 22, 3, 8, 8, 0, 890), (6, .iload_n 3, 1, 0, 0, 0, 0), (7, .iaload, 1, 0, 0, 0, 0), (8, .invokevirtual 138, 3, 137, 1, 8, 1084), (11, .imul, 1, 0, 0, 0, 0), (12, .istore 4, 2, 0, 0, 0, 0), (14, .iconst 4, 1, 0, 0, 0, 0), (15, .aload_n 0, 1, 0, 0, 0, 0), (16, .aload_n 0, 1, 0, 0, 0, 0), (17, .getfield 22, 3, 8, 8, 0, 890), (20, .iload_n 3, 1, 0, 0, 0, 0), (21, .iaload, 1, 0, 0, 0, 0), (22, .invokevirtual 141, 3, 138, 1, 8, 1088), (25, .imul, 1, 0, 0, 0, 0), (26, .istore 5, 2, 0, 0, 0, 0), (28, .iconst 4, 1, 0, 0, 0, 0), (29, .aload_n 0, 1, 0, 0, 0, 0), (30, .aload_n 0, 1, 0, 0, 0, 0), (31, .getfield 25, 3, 8, 9, 0, 891), (34, .iload_n 3, 1, 0, 0, 0, 0), (35, .iaload, 1, 0, 0, 0, 0), (36, .invokevirtual 138, 3, 137, 1, 8, 1084), (39, .imul, 1, 0, 0, 0, 0), (40, .istore 6, 2, 0, 0, 0, 0), (42, .iconst 4, 1, 0, 0, 0, 0), (43, .aload_n 0, 1, 0, 0, 0, 0), (44, .aload_n 0, 1, 0, 0, 0, 0), (45, .getfield 25, 3, 8, 9, 0, 891), (48, .iload_n 3, 1, 0, 0, 0, 0), (49, .iaload, 1, 0, 0, 0, 0), (50, .invokevirtual 141, 3, 138, 1, 8, 1088), (53, .imul, 1, 0, 0, 0, 0), (54, .istore 7, 2, 0, 0, 0, 0), (56, .iload 6, 2, 0, 0, 0, 0), (58, .iload 4, 2, 0, 0, 0, 0), (60, .isub, 1, 0, 0, 0, 0), (61, .iload_n 2, 1, 0, 0, 0, 0), (62, .iload 5, 2, 0, 0, 0, 0), (64, .isub, 1, 0, 0, 0, 0), (65, .imul, 1, 0, 0, 0, 0), (66, .iload 7, 2, 0, 0, 0, 0), (68, .iload 5, 2, 0, 0, 0, 0), (70, .isub, 1, 0, 0, 0, 0), (71, .iload_n 1, 1, 0, 0, 0, 0), (72, .iload 4, 2, 0, 0, 0, 0), (74, .isub, 1, 0, 0, 0, 0), (75, .imul, 1, 0, 0, 0, 0), (76, .if_icmp .ne 29, 3, 105, 0, 0, 0), (79, .iload_n 1, 1, 0, 0, 0, 0), (80, .iload 4, 2, 0, 0, 0, 0), (82, .iload 6, 2, 0, 0, 0, 0), (84, .invokestatic 148, 3, 143, 3, 0, 1104), (87, .ifCond .eq 18, 3, 105, 0, 0, 0), (90, .iload_n 2, 1, 0, 0, 0, 0), (91, .iload 5, 2, 0, 0, 0, 0), (93, .iload 7, 2, 0, 0, 0, 0), (95, .invokestatic 148, 3, 143, 3, 0, 1104), (98, .ifCond .eq 7, 3, 105, 0, 0, 0), (101, .iconst 1, 1, 0, 0, 0, 0), (102, .goto 4, 3, 106, 0, 0, 0), (105, .iconst 0, 1, 0, 0, 0, 0), (106, .ireturn, 1, 0, 0, 0, 0)]
def mm_m168 : mm_M := (⟨"LineMapModel", "isOnEdge", "(III)Z"⟩, prog_10_method_56_code, 8, some .boolean, 8, mm_k168, 1207, 1206, 77, 88, 0)
theorem mm_c168 : mm_mchk mm_m168 = true := by decide +kernel
end
section
/-- LineMapModel.isOnName(III)Z -/
def mm_k169 : List mm_E := [(0, .aload_n 0, 1, 0, 0, 0, 0), (1, .getfield 69, 3, 8, 27, 0, 909), (4, .iload_n 3, 1, 0, 0, 0, 0), (5, .iaload, 1, 0, 0, 0, 0), (6, .iconst (-1), 1, 0, 0, 0, 0), (7, .if_icmp .ne 5, 3, 12, 0, 0, 0), (10, .iconst 0, 1, 0, 0, 0, 0), (11, .ireturn, 1, 0, 0, 0, 0), (12, .iload_n 2, 1, 0, 0, 0, 0), (13, .aload_n 0, 1, 0, 0, 0, 0), (14, .iload_n 3, 1, 0, 0, 0, 0), (15, .aload_n 0, 1, 0, 0, 0, 0), (16, .getfield 69, 3, 8, 27, 0, 909), (19, .iload_n 3, 1, 0, 0, 0, 0), (20, .iaload, 1, 0, 0, 0, 0), (21, .invokevirtual 217, 3, 166, 2, 8, 1189), (24, .if_icmp .ne 45, 3, 69, 0, 0, 0), (27, .iload_n 1, 1, 0, 0, 0, 0), (28, .aload_n 0, 1, 0, 0, 0, 0), (29, .iload_n 3, 1, 0, 0, 0, 0), (30, .aload_n 0, 1, 0, 0, 0, 0), (31, .getfield 69, 3, 8, 27, 0, 909), (34, .iload_n 3, 1, 0, 0, 0, 0), (35, .iaload, 1, 0, 0, 0, 0), (36, .invokevirtual 220, 3, 165, 2, 8, 1185), (39, .aload_n 0, 1, 0, 0, 0, 0), (40, .iload_n 3, 1, 0, 0, 0, 0), (41, .aload_n 0, 1, 0, 0, 0, 0), (42, .getfield 69, 3, 8, 27, 0, 909), (45, .iload_n 3, 1, 0, 0, 0, 0), (46, .iaload, 1, 0, 0, 0, 0), (47, .invokevirtual 220, 3, 165, 2, 8, 1185), (50, .aload_n 0, 1, 0, 0, 0, 0), (51, .getfield 57, 3, 8, 20, 0, 902), (54, .iload_n 3, 1, 0, 0, 0, 0), (55, .iaload, 1, 0, 0, 0, 0), (56, .iadd, 1, 0, 0, 0, 0), (57, .iconst 1, 1, 0, 0, 0, 0), (58, .isub, 1, 0, 0, 0, 0), (59, .invokestatic 90, 3, 114, 3, 0, 983), (62, .ifCond .eq 7, 3, 69, 0, 0, 0), (65, .iconst 1, 1, 0, 0, 0, 0), (66, .goto 4, 3, 70, 0, 0, 0), (69, .iconst 0, 1, 0, 0, 0, 0), (70, .ireturn, 1, 0, 0, 0, 0)]
def mm_m169 : mm_M := (⟨"LineMapModel", "isOnName", "(III)Z"⟩, prog_10_method_57_code, 4, some .boolean, 8, mm_k169, 1203, 1202, 76, 88, 0)
theorem mm_c169 : mm_mchk mm_m169 = true := by decide +kernel
/-- LineMapModel.onPlace(II)I -/
def mm_k170 : List mm_E := [(0, .iconst (-1), 1, 0, 0, 0, 0), (1, .istore_n 3, 1, 0, 0, 0, 0), (2, .iconst 0, 1, 0, 0, 0, 0), (3, .istore 4, 2, 0, 0, 0, 0), (5, .iload 4, 2, 0, 0, 0, 0), (7, .aload_n 0, 1, 0, 0, 0, 0), (8, .getfield 57, 3, 8, 20, 0, 902), (11, .iload_n 1, 1, 0, 0, 0, 0), (12, .iaload, 1, 0, 0, 0, 0), (13, .if_icmp .ge 137, 3, 150, 0, 0, 0), (16, .aload_n 0, 1, 0, 0, 0, 0), (17, .iload_n 1, 1, 0, 0, 0, 0), (18, .iload_n 2, 1, 0, 0, 0, 0), (19, .invokevirtual 220, 3, 165, 2, 8, 1185), (22, .iload 4, 2, 0, 0, 0, 0), (24, .iadd, 1, 0, 0, 0, 0), (25, .istore 5, 2, 0, 0, 0, 0), (27, .aload_n 0, 1, 0, 0, 0, 0), (28, .iload_n 1, 1, 0, 0, 0, 0), (29, .iload_n 2, 1, 0, 0, 0, 0), (30, .invokevirtual 217, 3, 166, 2, 8, 1189), (33, .istore 6, 2, 0, 0, 0, 0), (35, .iconst 0, 1, 0, 0, 0, 0), (36, .istore 7, 2, 0, 0, 0, 0), (38, .iload 7, 2, 0, 0, 0, 0), (40, .aload_n 0, 1, 0, 0, 0, 0), (41, .getfield 87, 3, 8, 1, 0, 883), (44, .if_icmp .ge 59, 3, 103, 0, 0, 0), (47, .aload_n 0, 1, 0, 0, 0, 0), (48, .iload 5, 2, 0, 0, 0, 0), (50, .iload 6, 2, 0, 0, 0, 0), (52, .iload 7, 2, 0, 0, 0, 0), (54, .invokevirtual 223, 3, 167, 3, 8, 1193), (57, .ifCond .eq 10, 3, 67, 0, 0, 0), (60, .iload_n 3, 1, 0, 0, 0, 0), (61, .iload 7, 2, 0, 0, 0, 0), (63, .invokestatic 226, 3, 171, 2, 0, 1197), (66, .istore_n 3, 1, 0, 0, 0, 0), (67, .iload 7, 2, 0, 0, 0, 0), (69, .iload_n 1, 1, 0, 0, 0, 0), (70, .if_icmp .ge 27, 3, 97, 0, 0, 0), (73, .aload_n 0, 1, 0, 0, 0, 0), (74, .iload 5, 2, 0, 0, 0, 0), (76, .iload 6, 2, 0, 0, 0, 0), (78, .iload 7, 2, 0, 0, 0, 0), (80, .invokevirtual 229, 3, 169, 3, 8, 1200), (83, .ifCond .eq 14, 3, 97, 0, 0, 0), (86, .iload_n 3, 1, 0, 0, 0, 0), (87, .sipush 200, 3, 0, 0, 0, 0), (90, .iload 7, 2, 0, 0, 0, 0), (92, .iadd, 1, 0, 0, 0, 0), (93, .invokestatic 226, 3, 171, 2, 0, 1197), (96, .istore_n 3, 1, 0, 0, 0, 0), (97, .iinc 7 1, 3, 0, 0, 0, 0), (100, .goto (-62), 3, 38, 0, 0, 0), (103, .iconst 0, 1, 0, 0, 0, 0), (104, .istore 7, 2, 0, 0, 0, 0), (106, .iload 7, 2, 0, 0, 0, 0), (108, .aload_n 0, 1, 0, 0, 0, 0), (109, .getfield 108, 3, 8, 3, 0, 885), (112, .if_icmp .ge 32, 3, 144, 0, 0, 0), (115, .aload_n 0, 1, 0, 0, 0, 0), (116, .iload 5, 2, 0, 0, 0, 0), (118, .iload 6, 2, 0, 0, 0, 0), (120, .iload 7, 2, 0, 0, 0, 0), (122, .invokevirtual 232, 3, 168, 3, 8, 1204), (125, .ifCond .eq 13, 3, 138, 0, 0, 0), (128, .iload_n 3, 1, 0, 0, 0, 0), (129, .bipush 100, 2, 0, 0, 0, 0), (131, .iload 7, 2, 0, 0, 0, 0), (133, .iadd, 1, 0, 0, 0, 0), (134, .invokestatic 226, 3, 171, 2, 0, 1197), (137, .istore_n 3, 1, 0, 0, 0, 0), (138, .iinc 7 1, 3, 0, 0, 0, 0), (141, .goto (-35), 3, 106, 0, 0, 0), (144, .iinc 4 1, 3, 0, 0, 0, 0), (147, .goto (-142), 3, 5, 0, 0, 0), (150, .iload_n 3, 1, 0, 0, 0, 0), (151, .ireturn, 1, 0, 0, 0, 0)]
def mm_m170 : mm_M := (⟨"LineMapModel", "onPlace", "(II)I"⟩, prog_10_method_58_code, 8, some .int, 8, mm_k170, 1184, 1183, 72, 88, 0)
theorem mm_c170 : mm_mchk mm_m170 = true := by decide +kernel
/-- LineMapModel.first(II)I -/
def mm_k171 : List mm_E := [(0, .iload_n 0, 1, 0, 0, 0, 0), (1, .iconst (-1), 1, 0, 0, 0, 0), (2, .if_icmp .eq 8, 3, 10, 0, 0, 0), (5, .iload_n 1, 1, 0, 0, 0, 0), (6, .iload_n 0, 1, 0, 0, 0, 0), (7, .if_icmp .ge 7, 3, 14, 0, 0, 0), (10, .iload_n 1, 1, 0, 0, 0, 0), (11, .goto 4, 3, 15, 0, 0, 0), (14, .iload_n 0, 1, 0, 0, 0, 0), (15, .ireturn, 1, 0, 0, 0, 0)]
def mm_m171 : mm_M := (⟨"LineMapModel", "first", "(II)I"⟩, prog_10_method_59_code, 2, some .int, 8, mm_k171, 1199, 1198, 0, 88, 1)
theorem mm_c171 : mm_mchk mm_m171 = true := by decide +kernel
/-- LineMapModel.put()I -/
def mm_k172 : List mm_E := [(0, .aload_n 0, 1, 0, 0, 0, 0), (1, .invokevirtual 182, 3, 148, 0, 8, 1072), (4, .ifCond .eq 10, 3, 14, 0, 0, 0), (7, .aload_n 0, 1, 0, 0, 0, 0), (8, .bipush (-6), 2, 0, 0, 0, 0), (10, .invokevirtual 94, 3, 115, 1, 8, 986), (13, .ireturn, 1, 0, 0, 0, 0), (14, .iconst 0, 1, 0, 0, 0, 0), (15, .istore_n 1, 1, 0, 0, 0, 0), (16, .iconst 0, 1, 0, 0, 0, 0), (17, .istore_n 2, 1, 0, 0, 0, 0), (18, .iload_n 2, 1, 0, 0, 0, 0), (19, .aload_n 0, 1, 0, 0, 0, 0), (20, .getfield 87, 3, 8, 1, 0, 883), (23, .if_icmp .ge 122, 3, 145, 0, 0, 0), (26, .aload_n 0, 1, 0, 0, 0, 0), (27, .getfield 69, 3, 8, 27, 0, 909), (30, .iload_n 2, 1, 0, 0, 0, 0), (31, .iconst (-1), 1, 0, 0, 0, 0), (32, .iastore, 1, 0, 0, 0, 0), (33, .aload_n 0, 1, 0, 0, 0, 0), (34, .getfield 72, 3, 8, 28, 0, 910), (37, .iload_n 2, 1, 0, 0, 0, 0), (38, .iconst (-1), 1, 0, 0, 0, 0), (39, .iastore, 1, 0, 0, 0, 0), (40, .iconst 0, 1, 0, 0, 0, 0), (41, .istore_n 3, 1, 0, 0, 0, 0), (42, .iload_n 3, 1, 0, 0, 0, 0), (43, .bipush 8, 2, 0, 0, 0, 0), (45, .if_icmp .ge 45, 3, 90, 0, 0, 0), (48, .aload_n 0, 1, 0, 0, 0, 0), (49, .getfield 57, 3, 8, 20, 0, 902), (52, .iload_n 2, 1, 0, 0, 0, 0), (53, .iaload, 1, 0, 0, 0, 0), (54, .ifCond .le 36, 3, 90, 0, 0, 0), (57, .aload_n 0, 1, 0, 0, 0, 0), (58, .getfield 69, 3, 8, 27, 0, 909), (61, .iload_n 2, 1, 0, 0, 0, 0), (62, .iaload, 1, 0, 0, 0, 0), (63, .iconst (-1), 1, 0, 0, 0, 0), (64, .if_icmp .ne 26, 3, 90, 0, 0, 0), (67, .aload_n 0, 1, 0, 0, 0, 0), (68, .iload_n 2, 1, 0, 0, 0, 0), (69, .iload_n 3, 1, 0, 0, 0, 0), (70, .invokevirtual 235, 3, 170, 2, 8, 1181), (73, .iconst (-1), 1, 0, 0, 0, 0), (74, .if_icmp .ne 10, 3, 84, 0, 0, 0), (77, .aload_n 0, 1, 0, 0, 0, 0), (78, .getfield 69, 3, 8, 27, 0, 909), (81, .iload_n 2, 1, 0, 0, 0, 0), (82, .iload_n 3, 1, 0, 0, 0, 0), (83, .iastore, 1, 0, 0, 0, 0), (84, .iinc 3 1, 3, 0, 0, 0, 0), (87, .goto (-45), 3, 42, 0, 0, 0), (90, .aload_n 0, 1, 0, 0, 0, 0), (91, .getfield 57, 3, 8, 20, 0, 902), (94, .iload_n 2, 1, 0, 0, 0, 0), (95, .iaload, 1, 0, 0, 0, 0), (96, .ifCond .le 25, 3, 121, 0, 0, 0), (99, .aload_n 0, 1, 0, 0, 0, 0), (100, .getfield 69, 3, 8, 27, 0, 909), (103, .iload_n 2, 1, 0, 0, 0, 0), (104, .iaload, 1, 0, 0, 0, 0), (105, .iconst (-1), 1, 0, 0, 0, 0), (106, .if_icmp .ne 15, 3, 121, 0, 0, 0), (109, .aload_n 0, 1, 0, 0, 0, 0), (110, .getfield 72, 3, 8, 28, 0, 910), (113, .iload_n 2, 1, 0, 0, 0, 0), (114, .aload_n 0, 1, 0, 0, 0, 0), (115, .iload_n 2, 1, 0, 0, 0, 0), (116, .iconst 0, 1, 0, 0, 0, 0), (117, .invokevirtual 235, 3, 170, 2, 8, 1181), (120, .iastore, 1, 0, 0, 0, 0), (121, .iload_n 1, 1, 0, 0, 0, 0), (122, .aload_n 0, 1, 0, 0, 0, 0), (123, .getfield 69, 3, 8, 27, 0, 909), (126, .iload_n 2, 1, 0, 0, 0, 0), (127, .iaload, 1, 0, 0, 0, 0), (128, .iconst (-1), 1, 0, 0, 0, 0), (129, .if_icmp .ne 7, 3, 136, 0, 0, 0), (132, .iconst 0, 1, 0, 0, 0, 0), (133, .goto 4, 3, 137, 0, 0, 0), (136, .iconst 1, 1, 0, 0, 0, 0), (137, .iadd, 1, 0, 0, 0, 0), (138, .istore_n 1, 1, 0, 0, 0, 0), (139, .iinc 2 1, 3, 0, 0, 0, 0), (142, .goto (-124), 3, 18, 0, 0, 0), (145, .iconst 0, 1, 0, 0, 0, 0), (146, .istore_n 2, 1, 0, 0, 0, 0), (147, .iload_n 2, 1, 0, 0, 0, 0), (148, .aload_n 0, 1, 0, 0, 0, 0), (149, .getfield 87, 3, 8, 1, 0, 883), (152, .if_icmp .ge 21, 3, 173, 0, 0, 0), (155, .aload_n 0, 1, 0, 0, 0, 0), (156, .getfield 75, 3, 8, 29, 0, 911), (159, .iload_n 2, 1, 0, 0, 0, 0), (160, .aload_n 0, 1, 0, 0, 0, 0), (161, .getfield 69, 3, 8, 27, 0, 909), (164, .iload_n 2, 1, 0, 0, 0, 0), (165, .iaload, 1, 0, 0, 0, 0), (166, .iastore, 1, 0, 0, 0, 0), (167, .iinc 2 1, 3, 0, 0, 0, 0), (170, .goto (-23), 3, 147, 0, 0, 0), (173, .aload_n 0, 1, 0, 0, 0, 0), (174, .aload_n 0, 1, 0, 0, 0, 0), (175, .getfield 87, 3, 8, 1, 0, 883), (178, .putfield 238, 3, 8, 26, 0, 908), (181, .aload_n 0, 1, 0, 0, 0, 0), (182, .iload_n 1, 1, 0, 0, 0, 0), (183, .invokevirtual 94, 3, 115, 1, 8, 986), (186, .ireturn, 1, 0, 0, 0, 0)]
def mm_m172 : mm_M := (⟨"LineMapModel", "put", "()I"⟩, prog_10_method_60_code, 4, some .int, 8, mm_k172, 1180, 1178, 1179, 88, 0)
theorem mm_c172 : mm_mchk mm_m172 = true := by decide +kernel
/-- LineMapModel.named(II)I -/
def mm_k173 : List mm_E := [(0, .iload_n 1, 1, 0, 0, 0, 0), (1, .iconst 0, 1, 0, 0, 0, 0), (2, .aload_n 0, 1, 0, 0, 0, 0), (3, .getfield 238, 3, 8, 26, 0, 908), (6, .iconst 1, 1, 0, 0, 0, 0), (7, .isub, 1, 0, 0, 0, 0), (8, .invokestatic 90, 3, 114, 3, 0, 983), (11, .ifCond .ne 5, 3, 16, 0, 0, 0), (14, .iconst (-1), 1, 0, 0, 0, 0), (15, .ireturn, 1, 0, 0, 0, 0), (16, .iload_n 2, 1, 0, 0, 0, 0), (17, .ifCond .ne 12, 3, 29, 0, 0, 0), (20, .aload_n 0, 1, 0, 0, 0, 0), (21, .getfield 75, 3, 8, 29, 0, 911), (24, .iload_n 1, 1, 0, 0, 0, 0), (25, .iaload, 1, 0, 0, 0, 0), (26, .goto 18, 3, 44, 0, 0, 0), (29, .iload_n 2, 1, 0, 0, 0, 0), (30, .iconst 1, 1, 0, 0, 0, 0), (31, .if_icmp .ne 12, 3, 43, 0, 0, 0), (34, .aload_n 0, 1, 0, 0, 0, 0), (35, .getfield 72, 3, 8, 28, 0, 910), (38, .iload_n 1, 1, 0, 0, 0, 0), (39, .iaload, 1, 0, 0, 0, 0), (40, .goto 4, 3, 44, 0, 0, 0), (43, .iconst (-1), 1, 0, 0, 0, 0), (44, .ireturn, 1, 0, 0, 0, 0)]
def mm_m173 : mm_M := (⟨"LineMapModel", "named", "(II)I"⟩, prog_10_method_61_code, 3, some .int, 8, mm_k173, 1211, 1209, 1210, 88, 0)
theorem mm_c173 : mm_mchk mm_m173 = true := by decide +kernel
/-- LineMapModel.image(I)I -/
def mm_k174 : List mm_E := [(0, .iload_n 1, 1, 0, 0, 0, 0), (1, .iconst 0, 1, 0, 0, 0, 0), (2, .iconst 2, 1, 0, 0, 0, 0), (3, .invokestatic 90, 3, 114, 3, 0, 983), (6, .ifCond .ne 9, 3, 15, 0, 0, 0), (9, .aload_n 0, 1, 0, 0, 0, 0), (10, .iconst (-1), 1, 0, 0, 0, 0), (11, .invokevirtual 94, 3, 115, 1, 8, 986), (14, .ireturn, 1, 0, 0, 0, 0), (15, .aload_n 0, 1, 0, 0, 0, 0), (16, .getfield 78, 3, 8, 30, 0, 912), (19, .iload_n 1, 1, 0, 0, 0, 0), (20, .iconst 1, 1, 0, 0, 0, 0), (21, .bastore, 1, 0, 0, 0, 0), (22, .iconst 0, 1, 0, 0, 0, 0), (23, .istore_n 2, 1, 0, 0, 0, 0), (24, .iload_n 2, 1, 0, 0, 0, 0), (25, .bipush 10, 2, 0, 0, 0, 0), (27, .if_icmp .ge 74, 3, 101, 0, 0, 0), (30, .aload_n 0, 1, 0, 0, 0, 0), (31, .getfield 81, 3, 8, 31, 0, 913), (34, .bipush 23, 2, 0, 0, 0, 0), (36, .iload_n 1, 1, 0, 0, 0, 0), (37, .imul, 1, 0, 0, 0, 0), (38, .iload_n 2, 1, 0, 0, 0, 0), (39, .iadd, 1, 0, 0, 0, 0), (40, .iload_n 2, 1, 0, 0, 0, 0), (41, .aload_n 0, 1, 0, 0, 0, 0), (42, .getfield 87, 3, 8, 1, 0, 883), (45, .if_icmp .ge 12, 3, 57, 0, 0, 0), (48, .aload_n 0, 1, 0, 0, 0, 0), (49, .getfield 50, 3, 8, 18, 0, 900), (52, .iload_n 2, 1, 0, 0, 0, 0), (53, .iaload, 1, 0, 0, 0, 0), (54, .goto 4, 3, 58, 0, 0, 0), (57, .iconst (-1), 1, 0, 0, 0, 0), (58, .iastore, 1, 0, 0, 0, 0), (59, .aload_n 0, 1, 0, 0, 0, 0), (60, .getfield 81, 3, 8, 31, 0, 913), (63, .bipush 23, 2, 0, 0, 0, 0), (65, .iload_n 1, 1, 0, 0, 0, 0), (66, .imul, 1, 0, 0, 0, 0), (67, .bipush 10, 2, 0, 0, 0, 0), (69, .iadd, 1, 0, 0, 0, 0), (70, .iload_n 2, 1, 0, 0, 0, 0), (71, .iadd, 1, 0, 0, 0, 0), (72, .iload_n 2, 1, 0, 0, 0, 0), (73, .aload_n 0, 1, 0, 0, 0, 0), (74, .getfield 87, 3, 8, 1, 0, 883), (77, .if_icmp .ge 16, 3, 93, 0, 0, 0), (80, .aload_n 0, 1, 0, 0, 0, 0), (81, .getfield 53, 3, 8, 19, 0, 901), (84, .iload_n 2, 1, 0, 0, 0, 0), (85, .baload, 1, 0, 0, 0, 0), (86, .ifCond .eq 7, 3, 93, 0, 0, 0), (89, .iconst 1, 1, 0, 0, 0, 0), (90, .goto 4, 3, 94, 0, 0, 0), (93, .iconst 0, 1, 0, 0, 0, 0), (94, .iastore, 1, 0, 0, 0, 0), (95, .iinc 2 1, 3, 0, 0, 0, 0), (98, .goto (-74), 3, 24, 0, 0, 0), (101, .aload_n 0, 1, 0, 0, 0, 0), (102, .getfield 81, 3, 8, 31, 0, 913), (105, .bipush 23, 2, 0, 0, 0, 0), (107, .iload_n 1, 1, 0, 0, 0, 0), (108, .imul, 1, 0, 0, 0, 0), (109, .bipush 20, 2, 0, 0, 0, 0), (111, .iadd, 1, 0, 0, 0, 0), (112, .aload_n 0, 1, 0, 0, 0, 0), (113, .getfield 31, 3, 8, 12, 0, 894), (116, .iastore, 1, 0, 0, 0, 0), (117, .aload_n 0, 1, 0, 0, 0, 0), (118, .getfield 81, 3, 8, 31, 0, 913), (121, .bipush 23, 2, 0, 0, 0, 0), (123, .iload_n 1, 1, 0, 0, 0, 0), (124, .imul, 1, 0, 0, 0, 0), (125, .bipush 21, 2, 0, 0, 0, 0), (127, .iadd, 1, 0, 0, 0, 0), (128, .aload_n 0, 1, 0, 0, 0, 0), (129, .getfield 35, 3, 8, 13, 0, 895), (132, .iastore, 1, 0, 0, 0, 0), (133, .aload_n 0, 1, 0, 0, 0, 0), (134, .iconst 0, 1, 0, 0, 0, 0), (135, .invokevirtual 94, 3, 115, 1, 8, 986), (138, .ireturn, 1, 0, 0, 0, 0)]
def mm_m174 : mm_M := (⟨"LineMapModel", "image", "(I)I"⟩, prog_10_method_62_code, 3, some .int, 8, mm_k174, 1215, 1213, 1214, 88, 0)
theorem mm_c174 : mm_mchk mm_m174 = true := by decide +kernel
/-- LineMapModel.back(I)I -/
def mm_k175 : List mm_E := [(0, .iload_n 1, 1, 0, 0, 0, 0), (1, .iconst 0, 1, 0, 0, 0, 0), (2, .iconst 2, 1, 0, 0, 0, 0), (3, .invokestatic 90, 3, 114, 3, 0, 983), (6, .ifCond .ne 9, 3, 15, 0, 0, 0), (9, .aload_n 0, 1, 0, 0, 0, 0), (10, .iconst (-1), 1, 0, 0, 0, 0), (11, .invokevirtual 94, 3, 115, 1, 8, 986), (14, .ireturn, 1, 0, 0, 0, 0), (15, .aload_n 0, 1, 0, 0, 0, 0), (16, .getfield 78, 3, 8, 30, 0, 912), (19, .iload_n 1, 1, 0, 0, 0, 0), (20, .baload, 1, 0, 0, 0, 0), (21, .ifCond .ne 10, 3, 31, 0, 0, 0), (24, .aload_n 0, 1, 0, 0, 0, 0), (25, .bipush (-6), 2, 0, 0, 0, 0), (27, .invokevirtual 94, 3, 115, 1, 8, 986), (30, .ireturn, 1, 0, 0, 0, 0), (31, .iconst 0, 1, 0, 0, 0, 0), (32, .istore_n 2, 1, 0, 0, 0, 0), (33, .iload_n 2, 1, 0, 0, 0, 0), (34, .bipush 10, 2, 0, 0, 0, 0), (36, .if_icmp .ge 55, 3, 91, 0, 0, 0), (39, .aload_n 0, 1, 0, 0, 0, 0), (40, .getfield 50, 3, 8, 18, 0, 900), (43, .iload_n 2, 1, 0, 0, 0, 0), (44, .aload_n 0, 1, 0, 0, 0, 0), (45, .getfield 81, 3, 8, 31, 0, 913), (48, .bipush 23, 2, 0, 0, 0, 0), (50, .iload_n 1, 1, 0, 0, 0, 0), (51, .imul, 1, 0, 0, 0, 0), (52, .iload_n 2, 1, 0, 0, 0, 0), (53, .iadd, 1, 0, 0, 0, 0), (54, .iaload, 1, 0, 0, 0, 0), (55, .iastore, 1, 0, 0, 0, 0), (56, .aload_n 0, 1, 0, 0, 0, 0), (57, .getfield 53, 3, 8, 19, 0, 901), (60, .iload_n 2, 1, 0, 0, 0, 0), (61, .aload_n 0, 1, 0, 0, 0, 0), (62, .getfield 81, 3, 8, 31, 0, 913), (65, .bipush 23, 2, 0, 0, 0, 0), (67, .iload_n 1, 1, 0, 0, 0, 0), (68, .imul, 1, 0, 0, 0, 0), (69, .bipush 10, 2, 0, 0, 0, 0), (71, .iadd, 1, 0, 0, 0, 0), (72, .iload_n 2, 1, 0, 0, 0, 0), (73, .iadd, 1, 0, 0, 0, 0), (74, .iaload, 1, 0, 0, 0, 0), (75, .iconst 1, 1, 0, 0, 0, 0), (76, .if_icmp .ne 7, 3, 83, 0, 0, 0), (79, .iconst 1, 1, 0, 0, 0, 0), (80, .goto 4, 3, 84, 0, 0, 0), (83, .iconst 0, 1, 0, 0, 0, 0), (84, .bastore, 1, 0, 0, 0, 0), (85, .iinc 2 1, 3, 0, 0, 0, 0), (88, .goto (-55), 3, 33, 0, 0, 0), (91, .aload_n 0, 1, 0, 0, 0, 0), (92, .aload_n 0, 1, 0, 0, 0, 0), (93, .getfield 81, 3, 8, 31, 0, 913), (96, .bipush 23, 2, 0, 0, 0, 0), (98, .iload_n 1, 1, 0, 0, 0, 0), (99, .imul, 1, 0, 0, 0, 0), (100, .bipush 20, 2, 0, 0, 0, 0), (102, .iadd, 1, 0, 0, 0, 0), (103, .iaload, 1, 0, 0, 0, 0), (104, .putfield 31, 3, 8, 12, 0, 894), (107, .aload_n 0, 1, 0, 0, 0, 0), (108, .aload_n 0, 1, 0, 0, 0, 0), (109, .getfield 81, 3, 8, 31, 0, 913), (112, .bipush 23, 2, 0, 0, 0, 0), (114, .iload_n 1, 1, 0, 0, 0, 0), (115, .imul, 1, 0, 0, 0, 0), (116, .bipush 21, 2, 0, 0, 0, 0), (118, .iadd, 1, 0, 0, 0, 0), (119, .iaload, 1, 0, 0, 0, 0), (120, .putfield 35, 3, 8, 13, 0, 895), (123, .aload_n 0, 1, 0, 0, 0, 0), (124, .iconst 0, 1, 0, 0, 0, 0), (125, .invokevirtual 94, 3, 115, 1, 8, 986), (128, .ireturn, 1, 0, 0, 0, 0)]
def mm_m175 : mm_M := (⟨"LineMapModel", "back", "(I)I"⟩, prog_10_method_63_code, 3, some .int, 8, mm_k175, 1219, 1217, 1218, 88, 0)
theorem mm_c175 : mm_mchk mm_m175 = true := by decide +kernel
/-- LineMapModel.count(I)I -/
def mm_k176 : List mm_E := [(0, .iconst 0, 1, 0, 0, 0, 0), (1, .istore_n 2, 1, 0, 0, 0, 0), (2, .iload_n 1, 1, 0, 0, 0, 0), (3, .tableswitch 137 0 6 #[41, 46, 51, 87, 122, 127, 132], 41, 0, 0, 0, 0), (44, .aload_n 0, 1, 0, 0, 0, 0), (45, .getfield 87, 3, 8, 1, 0, 883), (48, .ireturn, 1, 0, 0, 0, 0), (49, .aload_n 0, 1, 0, 0, 0, 0), (50, .getfield 98, 3, 8, 2, 0, 884), (53, .ireturn, 1, 0, 0, 0, 0), (54, .iconst 0, 1, 0, 0, 0, 0), (55, .istore_n 3, 1, 0, 0, 0, 0), (56, .iload_n 3, 1, 0, 0, 0, 0), (57, .aload_n 0, 1, 0, 0, 0, 0), (58, .getfield 87, 3, 8, 1, 0, 883), (61, .if_icmp .ge 27, 3, 88, 0, 0, 0), (64, .iload_n 2, 1, 0, 0, 0, 0), (65, .aload_n 0, 1, 0, 0, 0, 0), (66, .getfield 50, 3, 8, 18, 0, 900), (69, .iload_n 3, 1, 0, 0, 0, 0), (70, .iaload, 1, 0, 0, 0, 0), (71, .iconst (-1), 1, 0, 0, 0, 0), (72, .if_icmp .ne 7, 3, 79, 0, 0, 0), (75, .iconst 0, 1, 0, 0, 0, 0), (76, .goto 4, 3, 80, 0, 0, 0), (79, .iconst 1, 1, 0, 0, 0, 0), (80, .iadd, 1, 0, 0, 0, 0), (81, .istore_n 2, 1, 0, 0, 0, 0), (82, .iinc 3 1, 3, 0, 0, 0, 0), (85, .goto (-29), 3, 56, 0, 0, 0), (88, .iload_n 2, 1, 0, 0, 0, 0), (89, .ireturn, 1, 0, 0, 0, 0), (90, .iconst 0, 1, 0, 0, 0, 0), (91, .istore_n 3, 1, 0, 0, 0, 0), (92, .iload_n 3, 1, 0, 0, 0, 0), (93, .aload_n 0, 1, 0, 0, 0, 0), (94, .getfield 87, 3, 8, 1, 0, 883), (97, .if_icmp .ge 26, 3, 123, 0, 0, 0), (100, .iload_n 2, 1, 0, 0, 0, 0), (101, .aload_n 0, 1, 0, 0, 0, 0), (102, .getfield 53, 3, 8, 19, 0, 901), (105, .iload_n 3, 1, 0, 0, 0, 0), (106, .baload, 1, 0, 0, 0, 0), (107, .ifCond .eq 7, 3, 114, 0, 0, 0), (110, .iconst 1, 1, 0, 0, 0, 0), (111, .goto 4, 3, 115, 0, 0, 0), (114, .iconst 0, 1, 0, 0, 0, 0), (115, .iadd, 1, 0, 0, 0, 0), (116, .istore_n 2, 1, 0, 0, 0, 0), (117, .iinc 3 1, 3, 0, 0, 0, 0), (120, .goto (-28), 3, 92, 0, 0, 0), (123, .iload_n 2, 1, 0, 0, 0, 0), (124, .ireturn, 1, 0, 0, 0, 0), (125, .aload_n 0, 1, 0, 0, 0, 0), (126, .getfield 31, 3, 8, 12, 0, 894), (129, .ireturn, 1, 0, 0, 0, 0), (130, .aload_n 0, 1, 0, 0, 0, 0), (131, .getfield 35, 3, 8, 13, 0, 895), (134, .ireturn, 1, 0, 0, 0, 0), (135, .aload_n 0, 1, 0, 0, 0, 0), (136, .getfield 38, 3, 8, 14, 0, 896), (139, .ireturn, 1, 0, 0, 0, 0), (140, .iconst (-1), 1, 0, 0, 0, 0), (141, .ireturn, 1, 0, 0, 0, 0)]
def mm_m176 : mm_M := (⟨"LineMapModel", "count", "(I)I"⟩, prog_10_method_64_code, 4, some .int, 8, mm_k176, 1223, 1221, 1222, 88, 0)
theorem mm_c176 : mm_mchk mm_m176 = true := by decide +kernel
/-- LineMapModel.status()I -/
def mm_k177 : List mm_E := [(0, .aload_n 0, 1, 0, 0, 0, 0), (1, .getfield 84, 3, 8, 0, 0, 882), (4, .ireturn, 1, 0, 0, 0, 0)]
def mm_m177 : mm_M := (⟨"LineMapModel", "status", "()I"⟩, prog_10_method_65_code, 1, some .int, 8, mm_k177, 1227, 1225, 1226, 88, 0)
theorem mm_c177 : mm_mchk mm_m177 = true := by decide +kernel
/-- java/util/Arrays.fill([II)V -/
def mm_k178 : List mm_E := [(0, .iconst 0, 1, 0, 0, 0, 0), (1, .istore_n 2, 1, 0, 0, 0, 0), (2, .aload_n 0, 1, 0, 0, 0, 0), (3, .arraylength, 1, 0, 0, 0, 0), (4, .istore_n 3, 1, 0, 0, 0, 0), (5, .iload_n 2, 1, 0, 0, 0, 0), (6, .iload_n 3, 1, 0, 0, 0, 0), (7, .if_icmp .ge 13, 3, 20, 0, 0, 0), (10, .aload_n 0, 1, 0, 0, 0, 0), (11, .iload_n 2, 1, 0, 0, 0, 0), (12, .iload_n 1, 1, 0, 0, 0, 0), (13, .iastore, 1, 0, 0, 0, 0), (14, .iinc 2 1, 3, 0, 0, 0, 0), (17, .goto (-12), 3, 5, 0, 0, 0), (20, .return_, 1, 0, 0, 0, 0)]
def mm_m178 : mm_M := (⟨"java/util/Arrays", "fill", "([II)V"⟩, prog_12_method_103_code, 4, none, 99, mm_k178, 108, 107, 0, 81, 1)
theorem mm_c178 : mm_mchk mm_m178 = true := by decide +kernel
end
section

end
section
def mm_kl0 : List mm_E := [(0, .new 7, 3, 7, 0, 0, 90), (3, .dup, 1, 0, 0, 0, 0), (4, .invokespecial 9, 3, 84, 0, 0, 92), (7, .astore_n 1, 1, 0, 0, 0, 0), (8, .new 10, 3, 8, 0, 0, 876), (11, .dup, 1, 0, 0, 0, 0), (12, .invokespecial 12, 3, 113, 0, 0, 878), (15, .astore_n 2, 1, 0, 0, 0, 0), (16, .iconst 0, 1, 0, 0, 0, 0), (17, .istore_n 3, 1, 0, 0, 0, 0), (18, .iload_n 3, 1, 0, 0, 0, 0), (19, .aload_n 0, 1, 0, 0, 0, 0), (20, .arraylength, 1, 0, 0, 0, 0), (21, .iconst 4, 1, 0, 0, 0, 0), (22, .isub, 1, 0, 0, 0, 0), (23, .if_icmp .gt 748, 3, 771, 0, 0, 0), (26, .aload_n 0, 1, 0, 0, 0, 0), (27, .iload_n 3, 1, 0, 0, 0, 0), (28, .iaload, 1, 0, 0, 0, 0), (29, .bipush 31, 2, 0, 0, 0, 0), (31, .iand, 1, 0, 0, 0, 0), (32, .tableswitch 733 0 22 #[108, 141, 154, 187, 220, 253, 286, 319, 342, 385, 428, 451, 500, 523, 546, 559, 572, 605, 618, 651, 674, 697, 720], 108, 0, 0, 0, 0), (140, .aload_n 1, 1, 0, 0, 0, 0), (141, .aload_n 0, 1, 0, 0, 0, 0), (142, .iload_n 3, 1, 0, 0, 0, 0), (143, .iconst 1, 1, 0, 0, 0, 0), (144, .iadd, 1, 0, 0, 0, 0), (145, .iaload, 1, 0, 0, 0, 0), (146, .aload_n 0, 1, 0, 0, 0, 0), (147, .iload_n 3, 1, 0, 0, 0, 0), (148, .iconst 2, 1, 0, 0, 0, 0), (149, .iadd, 1, 0, 0, 0, 0), (150, .iaload, 1, 0, 0, 0, 0), (151, .invokevirtual 13, 3, 85, 2, 7, 429), (154, .aload_n 2, 1, 0, 0, 0, 0), (155, .aload_n 0, 1, 0, 0, 0, 0), (156, .iload_n 3, 1, 0, 0, 0, 0), (157, .iconst 1, 1, 0, 0, 0, 0), (158, .iadd, 1, 0, 0, 0, 0), (159, .iaload, 1, 0, 0, 0, 0), (160, .aload_n 0, 1, 0, 0, 0, 0), (161, .iload_n 3, 1, 0, 0, 0, 0), (162, .iconst 2, 1, 0, 0, 0, 0), (163, .iadd, 1, 0, 0, 0, 0), (164, .iaload, 1, 0, 0, 0, 0), (165, .invokevirtual 17, 3, 117, 2, 8, 979), (168, .if_icmp .eq 597, 3, 765, 0, 0, 0), (171, .iconst 0, 1, 0, 0, 0, 0), (172, .ireturn, 1, 0, 0, 0, 0), (173, .aload_n 1, 1, 0, 0, 0, 0), (174, .invokevirtual 18, 3, 86, 0, 7, 452), (177, .aload_n 2, 1, 0, 0, 0, 0), (178, .invokevirtual 22, 3, 118, 0, 8, 990), (181, .if_icmp .eq 584, 3, 765, 0, 0, 0), (184, .iconst 0, 1, 0, 0, 0, 0), (185, .ireturn, 1, 0, 0, 0, 0)]
theorem mm_cl0 : mm_kl0.all (mm_chk ⟨"LineMapLaw", "law", "([I)Z"⟩ code) = true := by decide +kernel
def mm_kl1 : List mm_E := [(186, .aload_n 1, 1, 0, 0, 0, 0), (187, .aload_n 0, 1, 0, 0, 0, 0), (188, .iload_n 3, 1, 0, 0, 0, 0), (189, .iconst 1, 1, 0, 0, 0, 0), (190, .iadd, 1, 0, 0, 0, 0), (191, .iaload, 1, 0, 0, 0, 0), (192, .aload_n 0, 1, 0, 0, 0, 0), (193, .iload_n 3, 1, 0, 0, 0, 0), (194, .iconst 2, 1, 0, 0, 0, 0), (195, .iadd, 1, 0, 0, 0, 0), (196, .iaload, 1, 0, 0, 0, 0), (197, .invokevirtual 23, 3, 87, 2, 7, 460), (200, .aload_n 2, 1, 0, 0, 0, 0), (201, .aload_n 0, 1, 0, 0, 0, 0), (202, .iload_n 3, 1, 0, 0, 0, 0), (203, .iconst 1, 1, 0, 0, 0, 0), (204, .iadd, 1, 0, 0, 0, 0), (205, .iaload, 1, 0, 0, 0, 0), (206, .aload_n 0, 1, 0, 0, 0, 0), (207, .iload_n 3, 1, 0, 0, 0, 0), (208, .iconst 2, 1, 0, 0, 0, 0), (209, .iadd, 1, 0, 0, 0, 0), (210, .iaload, 1, 0, 0, 0, 0), (211, .invokevirtual 26, 3, 119, 2, 8, 994), (214, .if_icmp .eq 551, 3, 765, 0, 0, 0), (217, .iconst 0, 1, 0, 0, 0, 0), (218, .ireturn, 1, 0, 0, 0, 0), (219, .aload_n 1, 1, 0, 0, 0, 0), (220, .aload_n 0, 1, 0, 0, 0, 0), (221, .iload_n 3, 1, 0, 0, 0, 0), (222, .iconst 1, 1, 0, 0, 0, 0), (223, .iadd, 1, 0, 0, 0, 0), (224, .iaload, 1, 0, 0, 0, 0), (225, .aload_n 0, 1, 0, 0, 0, 0), (226, .iload_n 3, 1, 0, 0, 0, 0), (227, .iconst 2, 1, 0, 0, 0, 0), (228, .iadd, 1, 0, 0, 0, 0), (229, .iaload, 1, 0, 0, 0, 0), (230, .invokevirtual 27, 3, 88, 2, 7, 501), (233, .aload_n 2, 1, 0, 0, 0, 0), (234, .aload_n 0, 1, 0, 0, 0, 0), (235, .iload_n 3, 1, 0, 0, 0, 0), (236, .iconst 1, 1, 0, 0, 0, 0), (237, .iadd, 1, 0, 0, 0, 0), (238, .iaload, 1, 0, 0, 0, 0), (239, .aload_n 0, 1, 0, 0, 0, 0), (240, .iload_n 3, 1, 0, 0, 0, 0), (241, .iconst 2, 1, 0, 0, 0, 0), (242, .iadd, 1, 0, 0, 0, 0), (243, .iaload, 1, 0, 0, 0, 0), (244, .invokevirtual 30, 3, 120, 2, 8, 1010), (247, .if_icmp .eq 518, 3, 765, 0, 0, 0), (250, .iconst 0, 1, 0, 0, 0, 0), (251, .ireturn, 1, 0, 0, 0, 0), (252, .aload_n 1, 1, 0, 0, 0, 0), (253, .aload_n 0, 1, 0, 0, 0, 0)]
theorem mm_cl1 : mm_kl1.all (mm_chk ⟨"LineMapLaw", "law", "([I)Z"⟩ code) = true := by decide +kernel
def mm_kl2 : List mm_E := [(254, .iload_n 3, 1, 0, 0, 0, 0), (255, .iconst 1, 1, 0, 0, 0, 0), (256, .iadd, 1, 0, 0, 0, 0), (257, .iaload, 1, 0, 0, 0, 0), (258, .aload_n 0, 1, 0, 0, 0, 0), (259, .iload_n 3, 1, 0, 0, 0, 0), (260, .iconst 2, 1, 0, 0, 0, 0), (261, .iadd, 1, 0, 0, 0, 0), (262, .iaload, 1, 0, 0, 0, 0), (263, .invokevirtual 31, 3, 89, 2, 7, 505), (266, .aload_n 2, 1, 0, 0, 0, 0), (267, .aload_n 0, 1, 0, 0, 0, 0), (268, .iload_n 3, 1, 0, 0, 0, 0), (269, .iconst 1, 1, 0, 0, 0, 0), (270, .iadd, 1, 0, 0, 0, 0), (271, .iaload, 1, 0, 0, 0, 0), (272, .aload_n 0, 1, 0, 0, 0, 0), (273, .iload_n 3, 1, 0, 0, 0, 0), (274, .iconst 2, 1, 0, 0, 0, 0), (275, .iadd, 1, 0, 0, 0, 0), (276, .iaload, 1, 0, 0, 0, 0), (277, .invokevirtual 34, 3, 126, 2, 8, 1014), (280, .if_icmp .eq 485, 3, 765, 0, 0, 0), (283, .iconst 0, 1, 0, 0, 0, 0), (284, .ireturn, 1, 0, 0, 0, 0), (285, .aload_n 1, 1, 0, 0, 0, 0), (286, .aload_n 0, 1, 0, 0, 0, 0), (287, .iload_n 3, 1, 0, 0, 0, 0), (288, .iconst 1, 1, 0, 0, 0, 0), (289, .iadd, 1, 0, 0, 0, 0), (290, .iaload, 1, 0, 0, 0, 0), (291, .aload_n 0, 1, 0, 0, 0, 0), (292, .iload_n 3, 1, 0, 0, 0, 0), (293, .iconst 2, 1, 0, 0, 0, 0), (294, .iadd, 1, 0, 0, 0, 0), (295, .iaload, 1, 0, 0, 0, 0), (296, .invokevirtual 35, 3, 90, 2, 7, 509), (299, .aload_n 2, 1, 0, 0, 0, 0), (300, .aload_n 0, 1, 0, 0, 0, 0), (301, .iload_n 3, 1, 0, 0, 0, 0), (302, .iconst 1, 1, 0, 0, 0, 0), (303, .iadd, 1, 0, 0, 0, 0), (304, .iaload, 1, 0, 0, 0, 0), (305, .aload_n 0, 1, 0, 0, 0, 0), (306, .iload_n 3, 1, 0, 0, 0, 0), (307, .iconst 2, 1, 0, 0, 0, 0), (308, .iadd, 1, 0, 0, 0, 0), (309, .iaload, 1, 0, 0, 0, 0), (310, .invokevirtual 38, 3, 130, 2, 8, 1028), (313, .if_icmp .eq 452, 3, 765, 0, 0, 0), (316, .iconst 0, 1, 0, 0, 0, 0), (317, .ireturn, 1, 0, 0, 0, 0), (318, .aload_n 1, 1, 0, 0, 0, 0), (319, .aload_n 0, 1, 0, 0, 0, 0), (320, .iload_n 3, 1, 0, 0, 0, 0), (321, .iconst 1, 1, 0, 0, 0, 0)]
theorem mm_cl2 : mm_kl2.all (mm_chk ⟨"LineMapLaw", "law", "([I)Z"⟩ code) = true := by decide +kernel
def mm_kl3 : List mm_E := [(322, .iadd, 1, 0, 0, 0, 0), (323, .iaload, 1, 0, 0, 0, 0), (324, .aload_n 0, 1, 0, 0, 0, 0), (325, .iload_n 3, 1, 0, 0, 0, 0), (326, .iconst 2, 1, 0, 0, 0, 0), (327, .iadd, 1, 0, 0, 0, 0), (328, .iaload, 1, 0, 0, 0, 0), (329, .invokevirtual 39, 3, 91, 2, 7, 513), (332, .aload_n 2, 1, 0, 0, 0, 0), (333, .aload_n 0, 1, 0, 0, 0, 0), (334, .iload_n 3, 1, 0, 0, 0, 0), (335, .iconst 1, 1, 0, 0, 0, 0), (336, .iadd, 1, 0, 0, 0, 0), (337, .iaload, 1, 0, 0, 0, 0), (338, .aload_n 0, 1, 0, 0, 0, 0), (339, .iload_n 3, 1, 0, 0, 0, 0), (340, .iconst 2, 1, 0, 0, 0, 0), (341, .iadd, 1, 0, 0, 0, 0), (342, .iaload, 1, 0, 0, 0, 0), (343, .invokevirtual 42, 3, 131, 2, 8, 1044), (346, .if_icmp .eq 419, 3, 765, 0, 0, 0), (349, .iconst 0, 1, 0, 0, 0, 0), (350, .ireturn, 1, 0, 0, 0, 0), (351, .aload_n 1, 1, 0, 0, 0, 0), (352, .aload_n 0, 1, 0, 0, 0, 0), (353, .iload_n 3, 1, 0, 0, 0, 0), (354, .iconst 1, 1, 0, 0, 0, 0), (355, .iadd, 1, 0, 0, 0, 0), (356, .iaload, 1, 0, 0, 0, 0), (357, .invokevirtual 43, 3, 92, 1, 7, 518), (360, .aload_n 2, 1, 0, 0, 0, 0), (361, .aload_n 0, 1, 0, 0, 0, 0), (362, .iload_n 3, 1, 0, 0, 0, 0), (363, .iconst 1, 1, 0, 0, 0, 0), (364, .iadd, 1, 0, 0, 0, 0), (365, .iaload, 1, 0, 0, 0, 0), (366, .invokevirtual 47, 3, 132, 1, 8, 1048), (369, .if_icmp .eq 396, 3, 765, 0, 0, 0), (372, .iconst 0, 1, 0, 0, 0, 0), (373, .ireturn, 1, 0, 0, 0, 0), (374, .aload_n 1, 1, 0, 0, 0, 0), (375, .aload_n 0, 1, 0, 0, 0, 0), (376, .iload_n 3, 1, 0, 0, 0, 0), (377, .iconst 1, 1, 0, 0, 0, 0), (378, .iadd, 1, 0, 0, 0, 0), (379, .iaload, 1, 0, 0, 0, 0), (380, .aload_n 0, 1, 0, 0, 0, 0), (381, .iload_n 3, 1, 0, 0, 0, 0), (382, .iconst 2, 1, 0, 0, 0, 0), (383, .iadd, 1, 0, 0, 0, 0), (384, .iaload, 1, 0, 0, 0, 0), (385, .aload_n 0, 1, 0, 0, 0, 0), (386, .iload_n 3, 1, 0, 0, 0, 0), (387, .iconst 3, 1, 0, 0, 0, 0), (388, .iadd, 1, 0, 0, 0, 0), (389, .iaload, 1, 0, 0, 0, 0)]
theorem mm_cl3 : mm_kl3.all (mm_chk ⟨"LineMapLaw", "law", "([I)Z"⟩ code) = true := by decide +kernel
def mm_kl4 : List mm_E := [(390, .invokevirtual 48, 3, 93, 3, 7, 522), (393, .aload_n 2, 1, 0, 0, 0, 0), (394, .aload_n 0, 1, 0, 0, 0, 0), (395, .iload_n 3, 1, 0, 0, 0, 0), (396, .iconst 1, 1, 0, 0, 0, 0), (397, .iadd, 1, 0, 0, 0, 0), (398, .iaload, 1, 0, 0, 0, 0), (399, .aload_n 0, 1, 0, 0, 0, 0), (400, .iload_n 3, 1, 0, 0, 0, 0), (401, .iconst 2, 1, 0, 0, 0, 0), (402, .iadd, 1, 0, 0, 0, 0), (403, .iaload, 1, 0, 0, 0, 0), (404, .aload_n 0, 1, 0, 0, 0, 0), (405, .iload_n 3, 1, 0, 0, 0, 0), (406, .iconst 3, 1, 0, 0, 0, 0), (407, .iadd, 1, 0, 0, 0, 0), (408, .iaload, 1, 0, 0, 0, 0), (409, .invokevirtual 52, 3, 133, 3, 8, 1052), (412, .if_icmp .eq 353, 3, 765, 0, 0, 0), (415, .iconst 0, 1, 0, 0, 0, 0), (416, .ireturn, 1, 0, 0, 0, 0), (417, .aload_n 1, 1, 0, 0, 0, 0), (418, .aload_n 0, 1, 0, 0, 0, 0), (419, .iload_n 3, 1, 0, 0, 0, 0), (420, .iconst 1, 1, 0, 0, 0, 0), (421, .iadd, 1, 0, 0, 0, 0), (422, .iaload, 1, 0, 0, 0, 0), (423, .aload_n 0, 1, 0, 0, 0, 0), (424, .iload_n 3, 1, 0, 0, 0, 0), (425, .iconst 2, 1, 0, 0, 0, 0), (426, .iadd, 1, 0, 0, 0, 0), (427, .iaload, 1, 0, 0, 0, 0), (428, .aload_n 0, 1, 0, 0, 0, 0), (429, .iload_n 3, 1, 0, 0, 0, 0), (430, .iconst 3, 1, 0, 0, 0, 0), (431, .iadd, 1, 0, 0, 0, 0), (432, .iaload, 1, 0, 0, 0, 0), (433, .invokevirtual 53, 3, 94, 3, 7, 529), (436, .aload_n 2, 1, 0, 0, 0, 0), (437, .aload_n 0, 1, 0, 0, 0, 0), (438, .iload_n 3, 1, 0, 0, 0, 0), (439, .iconst 1, 1, 0, 0, 0, 0), (440, .iadd, 1, 0, 0, 0, 0), (441, .iaload, 1, 0, 0, 0, 0), (442, .aload_n 0, 1, 0, 0, 0, 0), (443, .iload_n 3, 1, 0, 0, 0, 0), (444, .iconst 2, 1, 0, 0, 0, 0), (445, .iadd, 1, 0, 0, 0, 0), (446, .iaload, 1, 0, 0, 0, 0), (447, .aload_n 0, 1, 0, 0, 0, 0), (448, .iload_n 3, 1, 0, 0, 0, 0), (449, .iconst 3, 1, 0, 0, 0, 0), (450, .iadd, 1, 0, 0, 0, 0), (451, .iaload, 1, 0, 0, 0, 0), (452, .invokevirtual 56, 3, 134, 3, 8, 1056), (455, .if_icmp .eq 310, 3, 765, 0, 0, 0)]
theorem mm_cl4 : mm_kl4.all (mm_chk ⟨"LineMapLaw", "law", "([I)Z"⟩ code) = true := by decide +kernel
def mm_kl5 : List mm_E := [(458, .iconst 0, 1, 0, 0, 0, 0), (459, .ireturn, 1, 0, 0, 0, 0), (460, .aload_n 1, 1, 0, 0, 0, 0), (461, .aload_n 0, 1, 0, 0, 0, 0), (462, .iload_n 3, 1, 0, 0, 0, 0), (463, .iconst 1, 1, 0, 0, 0, 0), (464, .iadd, 1, 0, 0, 0, 0), (465, .iaload, 1, 0, 0, 0, 0), (466, .invokevirtual 57, 3, 95, 1, 7, 537), (469, .aload_n 2, 1, 0, 0, 0, 0), (470, .aload_n 0, 1, 0, 0, 0, 0), (471, .iload_n 3, 1, 0, 0, 0, 0), (472, .iconst 1, 1, 0, 0, 0, 0), (473, .iadd, 1, 0, 0, 0, 0), (474, .iaload, 1, 0, 0, 0, 0), (475, .invokevirtual 60, 3, 135, 1, 8, 1060), (478, .if_icmp .eq 287, 3, 765, 0, 0, 0), (481, .iconst 0, 1, 0, 0, 0, 0), (482, .ireturn, 1, 0, 0, 0, 0), (483, .aload_n 1, 1, 0, 0, 0, 0), (484, .aload_n 0, 1, 0, 0, 0, 0), (485, .iload_n 3, 1, 0, 0, 0, 0), (486, .iconst 1, 1, 0, 0, 0, 0), (487, .iadd, 1, 0, 0, 0, 0), (488, .iaload, 1, 0, 0, 0, 0), (489, .aload_n 0, 1, 0, 0, 0, 0), (490, .iload_n 3, 1, 0, 0, 0, 0), (491, .iconst 2, 1, 0, 0, 0, 0), (492, .iadd, 1, 0, 0, 0, 0), (493, .iaload, 1, 0, 0, 0, 0), (494, .ifCond .eq 7, 3, 501, 0, 0, 0), (497, .iconst 1, 1, 0, 0, 0, 0), (498, .goto 4, 3, 502, 0, 0, 0), (501, .iconst 0, 1, 0, 0, 0, 0), (502, .invokevirtual 61, 3, 96, 2, 7, 549), (505, .aload_n 2, 1, 0, 0, 0, 0), (506, .aload_n 0, 1, 0, 0, 0, 0), (507, .iload_n 3, 1, 0, 0, 0, 0), (508, .iconst 1, 1, 0, 0, 0, 0), (509, .iadd, 1, 0, 0, 0, 0), (510, .iaload, 1, 0, 0, 0, 0), (511, .aload_n 0, 1, 0, 0, 0, 0), (512, .iload_n 3, 1, 0, 0, 0, 0), (513, .iconst 2, 1, 0, 0, 0, 0), (514, .iadd, 1, 0, 0, 0, 0), (515, .iaload, 1, 0, 0, 0, 0), (516, .ifCond .eq 7, 3, 523, 0, 0, 0), (519, .iconst 1, 1, 0, 0, 0, 0), (520, .goto 4, 3, 524, 0, 0, 0), (523, .iconst 0, 1, 0, 0, 0, 0), (524, .invokevirtual 65, 3, 136, 2, 8, 1064), (527, .if_icmp .eq 238, 3, 765, 0, 0, 0), (530, .iconst 0, 1, 0, 0, 0, 0), (531, .ireturn, 1, 0, 0, 0, 0), (532, .aload_n 1, 1, 0, 0, 0, 0), (533, .aload_n 0, 1, 0, 0, 0, 0)]
theorem mm_cl5 : mm_kl5.all (mm_chk ⟨"LineMapLaw", "law", "([I)Z"⟩ code) = true := by decide +kernel
def mm_kl6 : List mm_E := [(534, .iload_n 3, 1, 0, 0, 0, 0), (535, .iconst 1, 1, 0, 0, 0, 0), (536, .iadd, 1, 0, 0, 0, 0), (537, .iaload, 1, 0, 0, 0, 0), (538, .invokevirtual 66, 3, 97, 1, 7, 554), (541, .aload_n 2, 1, 0, 0, 0, 0), (542, .aload_n 0, 1, 0, 0, 0, 0), (543, .iload_n 3, 1, 0, 0, 0, 0), (544, .iconst 1, 1, 0, 0, 0, 0), (545, .iadd, 1, 0, 0, 0, 0), (546, .iaload, 1, 0, 0, 0, 0), (547, .invokevirtual 69, 3, 150, 1, 8, 1068), (550, .if_icmp .eq 215, 3, 765, 0, 0, 0), (553, .iconst 0, 1, 0, 0, 0, 0), (554, .ireturn, 1, 0, 0, 0, 0), (555, .aload_n 1, 1, 0, 0, 0, 0), (556, .aload_n 0, 1, 0, 0, 0, 0), (557, .iload_n 3, 1, 0, 0, 0, 0), (558, .iconst 1, 1, 0, 0, 0, 0), (559, .iadd, 1, 0, 0, 0, 0), (560, .iaload, 1, 0, 0, 0, 0), (561, .invokevirtual 70, 3, 98, 1, 7, 637), (564, .aload_n 2, 1, 0, 0, 0, 0), (565, .aload_n 0, 1, 0, 0, 0, 0), (566, .iload_n 3, 1, 0, 0, 0, 0), (567, .iconst 1, 1, 0, 0, 0, 0), (568, .iadd, 1, 0, 0, 0, 0), (569, .iaload, 1, 0, 0, 0, 0), (570, .invokevirtual 73, 3, 156, 1, 8, 1122), (573, .if_icmp .eq 192, 3, 765, 0, 0, 0), (576, .iconst 0, 1, 0, 0, 0, 0), (577, .ireturn, 1, 0, 0, 0, 0), (578, .aload_n 1, 1, 0, 0, 0, 0), (579, .invokevirtual 74, 3, 99, 0, 7, 678), (582, .aload_n 2, 1, 0, 0, 0, 0), (583, .invokevirtual 77, 3, 159, 0, 8, 1145), (586, .if_icmp .eq 179, 3, 765, 0, 0, 0), (589, .iconst 0, 1, 0, 0, 0, 0), (590, .ireturn, 1, 0, 0, 0, 0), (591, .aload_n 1, 1, 0, 0, 0, 0), (592, .invokevirtual 78, 3, 100, 0, 7, 777), (595, .aload_n 2, 1, 0, 0, 0, 0), (596, .invokevirtual 81, 3, 162, 0, 8, 1165), (599, .if_icmp .eq 166, 3, 765, 0, 0, 0), (602, .iconst 0, 1, 0, 0, 0, 0), (603, .ireturn, 1, 0, 0, 0, 0), (604, .aload_n 1, 1, 0, 0, 0, 0), (605, .aload_n 0, 1, 0, 0, 0, 0), (606, .iload_n 3, 1, 0, 0, 0, 0), (607, .iconst 1, 1, 0, 0, 0, 0), (608, .iadd, 1, 0, 0, 0, 0), (609, .iaload, 1, 0, 0, 0, 0), (610, .aload_n 0, 1, 0, 0, 0, 0), (611, .iload_n 3, 1, 0, 0, 0, 0), (612, .iconst 2, 1, 0, 0, 0, 0), (613, .iadd, 1, 0, 0, 0, 0)]
theorem mm_cl6 : mm_kl6.all (mm_chk ⟨"LineMapLaw", "law", "([I)Z"⟩ code) = true := by decide +kernel
def mm_kl7 : List mm_E := [(614, .iaload, 1, 0, 0, 0, 0), (615, .invokevirtual 82, 3, 101, 2, 7, 812), (618, .aload_n 2, 1, 0, 0, 0, 0), (619, .aload_n 0, 1, 0, 0, 0, 0), (620, .iload_n 3, 1, 0, 0, 0, 0), (621, .iconst 1, 1, 0, 0, 0, 0), (622, .iadd, 1, 0, 0, 0, 0), (623, .iaload, 1, 0, 0, 0, 0), (624, .aload_n 0, 1, 0, 0, 0, 0), (625, .iload_n 3, 1, 0, 0, 0, 0), (626, .iconst 2, 1, 0, 0, 0, 0), (627, .iadd, 1, 0, 0, 0, 0), (628, .iaload, 1, 0, 0, 0, 0), (629, .invokevirtual 85, 3, 164, 2, 8, 1173), (632, .if_icmp .eq 133, 3, 765, 0, 0, 0), (635, .iconst 0, 1, 0, 0, 0, 0), (636, .ireturn, 1, 0, 0, 0, 0), (637, .aload_n 1, 1, 0, 0, 0, 0), (638, .invokevirtual 86, 3, 102, 0, 7, 816), (641, .aload_n 2, 1, 0, 0, 0, 0), (642, .invokevirtual 89, 3, 172, 0, 8, 1177), (645, .if_icmp .eq 120, 3, 765, 0, 0, 0), (648, .iconst 0, 1, 0, 0, 0, 0), (649, .ireturn, 1, 0, 0, 0, 0), (650, .aload_n 1, 1, 0, 0, 0, 0), (651, .aload_n 0, 1, 0, 0, 0, 0), (652, .iload_n 3, 1, 0, 0, 0, 0), (653, .iconst 1, 1, 0, 0, 0, 0), (654, .iadd, 1, 0, 0, 0, 0), (655, .iaload, 1, 0, 0, 0, 0), (656, .aload_n 0, 1, 0, 0, 0, 0), (657, .iload_n 3, 1, 0, 0, 0, 0), (658, .iconst 2, 1, 0, 0, 0, 0), (659, .iadd, 1, 0, 0, 0, 0), (660, .iaload, 1, 0, 0, 0, 0), (661, .invokevirtual 90, 3, 103, 2, 7, 847), (664, .aload_n 2, 1, 0, 0, 0, 0), (665, .aload_n 0, 1, 0, 0, 0, 0), (666, .iload_n 3, 1, 0, 0, 0, 0), (667, .iconst 1, 1, 0, 0, 0, 0), (668, .iadd, 1, 0, 0, 0, 0), (669, .iaload, 1, 0, 0, 0, 0), (670, .aload_n 0, 1, 0, 0, 0, 0), (671, .iload_n 3, 1, 0, 0, 0, 0), (672, .iconst 2, 1, 0, 0, 0, 0), (673, .iadd, 1, 0, 0, 0, 0), (674, .iaload, 1, 0, 0, 0, 0), (675, .invokevirtual 93, 3, 173, 2, 8, 1208), (678, .if_icmp .eq 87, 3, 765, 0, 0, 0), (681, .iconst 0, 1, 0, 0, 0, 0), (682, .ireturn, 1, 0, 0, 0, 0), (683, .aload_n 1, 1, 0, 0, 0, 0), (684, .aload_n 0, 1, 0, 0, 0, 0), (685, .iload_n 3, 1, 0, 0, 0, 0), (686, .iconst 1, 1, 0, 0, 0, 0), (687, .iadd, 1, 0, 0, 0, 0)]
theorem mm_cl7 : mm_kl7.all (mm_chk ⟨"LineMapLaw", "law", "([I)Z"⟩ code) = true := by decide +kernel
def mm_kl8 : List mm_E := [(688, .iaload, 1, 0, 0, 0, 0), (689, .invokevirtual 94, 3, 104, 1, 7, 851), (692, .aload_n 2, 1, 0, 0, 0, 0), (693, .aload_n 0, 1, 0, 0, 0, 0), (694, .iload_n 3, 1, 0, 0, 0, 0), (695, .iconst 1, 1, 0, 0, 0, 0), (696, .iadd, 1, 0, 0, 0, 0), (697, .iaload, 1, 0, 0, 0, 0), (698, .invokevirtual 97, 3, 174, 1, 8, 1212), (701, .if_icmp .eq 64, 3, 765, 0, 0, 0), (704, .iconst 0, 1, 0, 0, 0, 0), (705, .ireturn, 1, 0, 0, 0, 0), (706, .aload_n 1, 1, 0, 0, 0, 0), (707, .aload_n 0, 1, 0, 0, 0, 0), (708, .iload_n 3, 1, 0, 0, 0, 0), (709, .iconst 1, 1, 0, 0, 0, 0), (710, .iadd, 1, 0, 0, 0, 0), (711, .iaload, 1, 0, 0, 0, 0), (712, .invokevirtual 98, 3, 105, 1, 7, 859), (715, .aload_n 2, 1, 0, 0, 0, 0), (716, .aload_n 0, 1, 0, 0, 0, 0), (717, .iload_n 3, 1, 0, 0, 0, 0), (718, .iconst 1, 1, 0, 0, 0, 0), (719, .iadd, 1, 0, 0, 0, 0), (720, .iaload, 1, 0, 0, 0, 0), (721, .invokevirtual 101, 3, 175, 1, 8, 1216), (724, .if_icmp .eq 41, 3, 765, 0, 0, 0), (727, .iconst 0, 1, 0, 0, 0, 0), (728, .ireturn, 1, 0, 0, 0, 0), (729, .aload_n 1, 1, 0, 0, 0, 0), (730, .aload_n 0, 1, 0, 0, 0, 0), (731, .iload_n 3, 1, 0, 0, 0, 0), (732, .iconst 1, 1, 0, 0, 0, 0), (733, .iadd, 1, 0, 0, 0, 0), (734, .iaload, 1, 0, 0, 0, 0), (735, .invokevirtual 102, 3, 106, 1, 7, 863), (738, .aload_n 2, 1, 0, 0, 0, 0), (739, .aload_n 0, 1, 0, 0, 0, 0), (740, .iload_n 3, 1, 0, 0, 0, 0), (741, .iconst 1, 1, 0, 0, 0, 0), (742, .iadd, 1, 0, 0, 0, 0), (743, .iaload, 1, 0, 0, 0, 0), (744, .invokevirtual 105, 3, 176, 1, 8, 1220), (747, .if_icmp .eq 18, 3, 765, 0, 0, 0), (750, .iconst 0, 1, 0, 0, 0, 0), (751, .ireturn, 1, 0, 0, 0, 0), (752, .aload_n 1, 1, 0, 0, 0, 0), (753, .invokevirtual 106, 3, 107, 0, 7, 872), (756, .aload_n 2, 1, 0, 0, 0, 0), (757, .invokevirtual 109, 3, 177, 0, 8, 1224), (760, .if_icmp .eq 5, 3, 765, 0, 0, 0), (763, .iconst 0, 1, 0, 0, 0, 0), (764, .ireturn, 1, 0, 0, 0, 0), (765, .iinc 3 4, 3, 0, 0, 0, 0), (768, .goto (-750), 3, 18, 0, 0, 0), (771, .iconst 1, 1, 0, 0, 0, 0)]
theorem mm_cl8 : mm_kl8.all (mm_chk ⟨"LineMapLaw", "law", "([I)Z"⟩ code) = true := by decide +kernel
def mm_kl9 : List mm_E := [(772, .ireturn, 1, 0, 0, 0, 0)]
theorem mm_cl9 : mm_kl9.all (mm_chk ⟨"LineMapLaw", "law", "([I)Z"⟩ code) = true := by decide +kernel
def mm_kl : List mm_E := mm_kl0 ++ (mm_kl1 ++ (mm_kl2 ++ (mm_kl3 ++ (mm_kl4 ++ (mm_kl5 ++ (mm_kl6 ++ (mm_kl7 ++ (mm_kl8 ++ (mm_kl9
)))))))))
theorem mm_kl_ok : mm_kl.all (mm_chk ⟨"LineMapLaw", "law", "([I)Z"⟩ code) = true := by
  simp only [mm_kl, List.all_append, Bool.and_eq_true]
  exact ⟨mm_cl0, mm_cl1, mm_cl2, mm_cl3, mm_cl4, mm_cl5, mm_cl6, mm_cl7, mm_cl8, mm_cl9⟩
def mm_law : mm_M := (⟨"LineMapLaw", "law", "([I)Z"⟩, code, 4, some .boolean, 99, mm_kl, 0, 0, 0, 0, 1)
def mm_mt : List mm_M := [mm_m0, mm_m1, mm_m2, mm_m3, mm_m4, mm_m5, mm_m6, mm_m7, mm_m8, mm_m9, mm_m10, mm_m11, mm_m12, mm_m13, mm_m14, mm_m15, mm_m16, mm_m17, mm_m18, mm_m19, mm_m20, mm_m21, mm_m22, mm_m23, mm_m24, mm_m25, mm_m26, mm_m27, mm_m28, mm_m29, mm_m30, mm_m31, mm_m32, mm_m33, mm_m34, mm_m35, mm_m36, mm_m37, mm_m38, mm_m39, mm_m40, mm_m41, mm_m42, mm_m43, mm_m44, mm_m45, mm_m46, mm_m47, mm_m48, mm_m49, mm_m50, mm_m51, mm_m52, mm_m53, mm_m54, mm_m55, mm_m56, mm_m57, mm_m58, mm_m59, mm_m60, mm_m61, mm_m62, mm_m63, mm_m64, mm_m65, mm_m66, mm_m67, mm_m68, mm_m69, mm_m70, mm_m71, mm_m72, mm_m73, mm_m74, mm_m75, mm_m76, mm_m77, mm_m78, mm_m79, mm_m80, mm_m81, mm_m82, mm_m83, mm_m84, mm_m85, mm_m86, mm_m87, mm_m88, mm_m89, mm_m90, mm_m91, mm_m92, mm_m93, mm_m94, mm_m95, mm_m96, mm_m97, mm_m98, mm_m99, mm_m100, mm_m101, mm_m102, mm_m103, mm_m104, mm_m105, mm_m106, mm_m107, mm_m108, mm_m109, mm_m110, mm_m111, mm_m112, mm_m113, mm_m114, mm_m115, mm_m116, mm_m117, mm_m118, mm_m119, mm_m120, mm_m121, mm_m122, mm_m123, mm_m124, mm_m125, mm_m126, mm_m127, mm_m128, mm_m129, mm_m130, mm_m131, mm_m132, mm_m133, mm_m134, mm_m135, mm_m136, mm_m137, mm_m138, mm_m139, mm_m140, mm_m141, mm_m142, mm_m143, mm_m144, mm_m145, mm_m146, mm_m147, mm_m148, mm_m149, mm_m150, mm_m151, mm_m152, mm_m153, mm_m154, mm_m155, mm_m156, mm_m157, mm_m158, mm_m159, mm_m160, mm_m161, mm_m162, mm_m163, mm_m164, mm_m165, mm_m166, mm_m167, mm_m168, mm_m169, mm_m170, mm_m171, mm_m172, mm_m173, mm_m174, mm_m175, mm_m176, mm_m177, mm_m178]
set_option maxRecDepth 20000 in
theorem mm_all : ∀ M ∈ mm_mt, mm_mchk M = true := by
  unfold mm_mt
  exact List.forall_mem_cons.mpr ⟨mm_c0, List.forall_mem_cons.mpr ⟨mm_c1, List.forall_mem_cons.mpr ⟨mm_c2, List.forall_mem_cons.mpr ⟨mm_c3, List.forall_mem_cons.mpr ⟨mm_c4, List.forall_mem_cons.mpr ⟨mm_c5, List.forall_mem_cons.mpr ⟨mm_c6, List.forall_mem_cons.mpr ⟨mm_c7, List.forall_mem_cons.mpr ⟨mm_c8, List.forall_mem_cons.mpr ⟨mm_c9, List.forall_mem_cons.mpr ⟨mm_c10, List.forall_mem_cons.mpr ⟨mm_c11, List.forall_mem_cons.mpr ⟨mm_c12, List.forall_mem_cons.mpr ⟨mm_c13, List.forall_mem_cons.mpr ⟨mm_c14, List.forall_mem_cons.mpr ⟨mm_c15, List.forall_mem_cons.mpr ⟨mm_c16, List.forall_mem_cons.mpr ⟨mm_c17, List.forall_mem_cons.mpr ⟨mm_c18, List.forall_mem_cons.mpr ⟨mm_c19, List.forall_mem_cons.mpr ⟨mm_c20, List.forall_mem_cons.mpr ⟨mm_c21, List.forall_mem_cons.mpr ⟨mm_c22, List.forall_mem_cons.mpr ⟨mm_c23, List.forall_mem_cons.mpr ⟨mm_c24, List.forall_mem_cons.mpr ⟨mm_c25, List.forall_mem_cons.mpr ⟨mm_c26, List.forall_mem_cons.mpr ⟨mm_c27, List.forall_mem_cons.mpr ⟨mm_c28, List.forall_mem_cons.mpr ⟨mm_c29, List.forall_mem_cons.mpr ⟨mm_c30, List.forall_mem_cons.mpr ⟨mm_c31, List.forall_mem_cons.mpr ⟨mm_c32, List.forall_mem_cons.mpr ⟨mm_c33, List.forall_mem_cons.mpr ⟨mm_c34, List.forall_mem_cons.mpr ⟨mm_c35, List.forall_mem_cons.mpr ⟨mm_c36, List.forall_mem_cons.mpr ⟨mm_c37, List.forall_mem_cons.mpr ⟨mm_c38, List.forall_mem_cons.mpr ⟨mm_c39, List.forall_mem_cons.mpr ⟨mm_c40, List.forall_mem_cons.mpr ⟨mm_c41, List.forall_mem_cons.mpr ⟨mm_c42, List.forall_mem_cons.mpr ⟨mm_c43, List.forall_mem_cons.mpr ⟨mm_c44, List.forall_mem_cons.mpr ⟨mm_c45, List.forall_mem_cons.mpr ⟨mm_c46, List.forall_mem_cons.mpr ⟨mm_c47, List.forall_mem_cons.mpr ⟨mm_c48, List.forall_mem_cons.mpr ⟨mm_c49, List.forall_mem_cons.mpr ⟨mm_c50, List.forall_mem_cons.mpr ⟨mm_c51, List.forall_mem_cons.mpr ⟨mm_c52, List.forall_mem_cons.mpr ⟨mm_c53, List.forall_mem_cons.mpr ⟨mm_c54, List.forall_mem_cons.mpr ⟨mm_c55, List.forall_mem_cons.mpr ⟨mm_c56, List.forall_mem_cons.mpr ⟨mm_c57, List.forall_mem_cons.mpr ⟨mm_c58, List.forall_mem_cons.mpr ⟨mm_c59, List.forall_mem_cons.mpr ⟨mm_c60, List.forall_mem_cons.mpr ⟨mm_c61, List.forall_mem_cons.mpr ⟨mm_c62, List.forall_mem_cons.mpr ⟨mm_c63, List.forall_mem_cons.mpr ⟨mm_c64, List.forall_mem_cons.mpr ⟨mm_c65, List.forall_mem_cons.mpr ⟨mm_c66, List.forall_mem_cons.mpr ⟨mm_c67, List.forall_mem_cons.mpr ⟨mm_c68, List.forall_mem_cons.mpr ⟨mm_c69, List.forall_mem_cons.mpr ⟨mm_c70, List.forall_mem_cons.mpr ⟨mm_c71, List.forall_mem_cons.mpr ⟨mm_c72, List.forall_mem_cons.mpr ⟨mm_c73, List.forall_mem_cons.mpr ⟨mm_c74, List.forall_mem_cons.mpr ⟨mm_c75, List.forall_mem_cons.mpr ⟨mm_c76, List.forall_mem_cons.mpr ⟨mm_c77, List.forall_mem_cons.mpr ⟨mm_c78, List.forall_mem_cons.mpr ⟨mm_c79, List.forall_mem_cons.mpr ⟨mm_c80, List.forall_mem_cons.mpr ⟨mm_c81, List.forall_mem_cons.mpr ⟨mm_c82, List.forall_mem_cons.mpr ⟨mm_c83, List.forall_mem_cons.mpr ⟨mm_c84, List.forall_mem_cons.mpr ⟨mm_c85, List.forall_mem_cons.mpr ⟨mm_c86, List.forall_mem_cons.mpr ⟨mm_c87, List.forall_mem_cons.mpr ⟨mm_c88, List.forall_mem_cons.mpr ⟨mm_c89, List.forall_mem_cons.mpr ⟨mm_c90, List.forall_mem_cons.mpr ⟨mm_c91, List.forall_mem_cons.mpr ⟨mm_c92, List.forall_mem_cons.mpr ⟨mm_c93, List.forall_mem_cons.mpr ⟨mm_c94, List.forall_mem_cons.mpr ⟨mm_c95, List.forall_mem_cons.mpr ⟨mm_c96, List.forall_mem_cons.mpr ⟨mm_c97, List.forall_mem_cons.mpr ⟨mm_c98, List.forall_mem_cons.mpr ⟨mm_c99, List.forall_mem_cons.mpr ⟨mm_c100, List.forall_mem_cons.mpr ⟨mm_c101, List.forall_mem_cons.mpr ⟨mm_c102, List.forall_mem_cons.mpr ⟨mm_c103, List.forall_mem_cons.mpr ⟨mm_c104, List.forall_mem_cons.mpr ⟨mm_c105, List.forall_mem_cons.mpr ⟨mm_c106, List.forall_mem_cons.mpr ⟨mm_c107, List.forall_mem_cons.mpr ⟨mm_c108, List.forall_mem_cons.mpr ⟨mm_c109, List.forall_mem_cons.mpr ⟨mm_c110, List.forall_mem_cons.mpr ⟨mm_c111, List.forall_mem_cons.mpr ⟨mm_c112, List.forall_mem_cons.mpr ⟨mm_c113, List.forall_mem_cons.mpr ⟨mm_c114, List.forall_mem_cons.mpr ⟨mm_c115, List.forall_mem_cons.mpr ⟨mm_c116, List.forall_mem_cons.mpr ⟨mm_c117, List.forall_mem_cons.mpr ⟨mm_c118, List.forall_mem_cons.mpr ⟨mm_c119, List.forall_mem_cons.mpr ⟨mm_c120, List.forall_mem_cons.mpr ⟨mm_c121, List.forall_mem_cons.mpr ⟨mm_c122, List.forall_mem_cons.mpr ⟨mm_c123, List.forall_mem_cons.mpr ⟨mm_c124, List.forall_mem_cons.mpr ⟨mm_c125, List.forall_mem_cons.mpr ⟨mm_c126, List.forall_mem_cons.mpr ⟨mm_c127, List.forall_mem_cons.mpr ⟨mm_c128, List.forall_mem_cons.mpr ⟨mm_c129, List.forall_mem_cons.mpr ⟨mm_c130, List.forall_mem_cons.mpr ⟨mm_c131, List.forall_mem_cons.mpr ⟨mm_c132, List.forall_mem_cons.mpr ⟨mm_c133, List.forall_mem_cons.mpr ⟨mm_c134, List.forall_mem_cons.mpr ⟨mm_c135, List.forall_mem_cons.mpr ⟨mm_c136, List.forall_mem_cons.mpr ⟨mm_c137, List.forall_mem_cons.mpr ⟨mm_c138, List.forall_mem_cons.mpr ⟨mm_c139, List.forall_mem_cons.mpr ⟨mm_c140, List.forall_mem_cons.mpr ⟨mm_c141, List.forall_mem_cons.mpr ⟨mm_c142, List.forall_mem_cons.mpr ⟨mm_c143, List.forall_mem_cons.mpr ⟨mm_c144, List.forall_mem_cons.mpr ⟨mm_c145, List.forall_mem_cons.mpr ⟨mm_c146, List.forall_mem_cons.mpr ⟨mm_c147, List.forall_mem_cons.mpr ⟨mm_c148, List.forall_mem_cons.mpr ⟨mm_c149, List.forall_mem_cons.mpr ⟨mm_c150, List.forall_mem_cons.mpr ⟨mm_c151, List.forall_mem_cons.mpr ⟨mm_c152, List.forall_mem_cons.mpr ⟨mm_c153, List.forall_mem_cons.mpr ⟨mm_c154, List.forall_mem_cons.mpr ⟨mm_c155, List.forall_mem_cons.mpr ⟨mm_c156, List.forall_mem_cons.mpr ⟨mm_c157, List.forall_mem_cons.mpr ⟨mm_c158, List.forall_mem_cons.mpr ⟨mm_c159, List.forall_mem_cons.mpr ⟨mm_c160, List.forall_mem_cons.mpr ⟨mm_c161, List.forall_mem_cons.mpr ⟨mm_c162, List.forall_mem_cons.mpr ⟨mm_c163, List.forall_mem_cons.mpr ⟨mm_c164, List.forall_mem_cons.mpr ⟨mm_c165, List.forall_mem_cons.mpr ⟨mm_c166, List.forall_mem_cons.mpr ⟨mm_c167, List.forall_mem_cons.mpr ⟨mm_c168, List.forall_mem_cons.mpr ⟨mm_c169, List.forall_mem_cons.mpr ⟨mm_c170, List.forall_mem_cons.mpr ⟨mm_c171, List.forall_mem_cons.mpr ⟨mm_c172, List.forall_mem_cons.mpr ⟨mm_c173, List.forall_mem_cons.mpr ⟨mm_c174, List.forall_mem_cons.mpr ⟨mm_c175, List.forall_mem_cons.mpr ⟨mm_c176, List.forall_mem_cons.mpr ⟨mm_c177, List.forall_mem_cons.mpr ⟨mm_c178,  fun _ h => absurd h List.not_mem_nil⟩⟩⟩⟩⟩⟩⟩⟩⟩⟩⟩⟩⟩⟩⟩⟩⟩⟩⟩⟩⟩⟩⟩⟩⟩⟩⟩⟩⟩⟩⟩⟩⟩⟩⟩⟩⟩⟩⟩⟩⟩⟩⟩⟩⟩⟩⟩⟩⟩⟩⟩⟩⟩⟩⟩⟩⟩⟩⟩⟩⟩⟩⟩⟩⟩⟩⟩⟩⟩⟩⟩⟩⟩⟩⟩⟩⟩⟩⟩⟩⟩⟩⟩⟩⟩⟩⟩⟩⟩⟩⟩⟩⟩⟩⟩⟩⟩⟩⟩⟩⟩⟩⟩⟩⟩⟩⟩⟩⟩⟩⟩⟩⟩⟩⟩⟩⟩⟩⟩⟩⟩⟩⟩⟩⟩⟩⟩⟩⟩⟩⟩⟩⟩⟩⟩⟩⟩⟩⟩⟩⟩⟩⟩⟩⟩⟩⟩⟩⟩⟩⟩⟩⟩⟩⟩⟩⟩⟩⟩⟩⟩⟩⟩⟩⟩⟩⟩⟩⟩⟩⟩⟩⟩⟩⟩⟩⟩⟩⟩
theorem mm_mns : mm_mt.map (fun M => M.1) = mm_ns.take 179 := by decide +kernel
theorem mm_math : lw_tbl[488]? = some (.static Lib.Math.abs.name) ∧ lw_tbl[597]? = some (.static Lib.Math.max.name) ∧ lw_tbl[619]? = some (.static Lib.Math.min.name) ∧ lw_tbl[489]? = some (.code Lib.Math.abs.name Lib.Math.abs.code 1 (some .int)) ∧ lw_tbl[598]? = some (.code Lib.Math.max.name Lib.Math.max.code 2 (some .int)) ∧ lw_tbl[620]? = some (.code Lib.Math.min.name Lib.Math.min.code 2 (some .int)) ∧ lw_tbl[89]? = some (.initialized "java/lang/Math") := by decide +kernel
theorem mm_obj : lw_tbl[96]? = some (.instanceMethod objectInit) ∧ lw_tbl[97]? = some (.code objectInit ⟨#[0xb1]⟩ 1 none) := by decide +kernel
theorem mm_arr : lw_tbl[188]? = some (.arrayClass .int) ∧ lw_tbl[225]? = some (.arrayClass .boolean) ∧ lw_tbl[105]? = some (.arrayOver (.array .int)) ∧ lw_tbl[397]? = some (.arrayOver (.object "LineMap$Plan")) ∧ lw_tbl[228]? = some (.methodLinkNest "LineMap" 25 ⟨"LineMap$Terms", "<init>", "()V"⟩ "LineMap") ∧ lw_tbl[699]? = some (.methodLinkNest "LineMap$Search" 129 ⟨"LineMap", "isWithin", "(III)Z"⟩ "LineMap") ∧ lw_tbl[695]? = some (.fieldLinkNest "LineMap$Search" 123 "LineMap" "STEP_X" "[I" "LineMap") ∧ lw_tbl[697]? = some (.fieldLinkNest "LineMap$Search" 126 "LineMap" "STEP_Y" "[I" "LineMap") ∧ lw_tbl[696]? = some (.laysStatic "LineMap" "STEP_X" "[I") ∧ lw_tbl[698]? = some (.laysStatic "LineMap" "STEP_Y" "[I") := by decide +kernel
end
section
/-! which sort of method each call names -/
def mm_kchk (e : mm_E) : Bool := match e with
  | (_, .invokevirtual _, _, a, _, _, _) => decide ((mm_mt[a]?).map (fun M => mm_mq M) = some 0)
  | (_, .invokestatic _, _, a, _, c, _) => match c with
    | 10 => true
    | 11 => true
    | 12 => true
    | _ => decide ((mm_mt[a]?).map (fun M => mm_mq M) = some 1)
  | (_, .invokespecial _, _, a, _, c, _) => match c with
    | 2 => true
    | _ => decide ((mm_mt[a]?).map (fun M => (mm_mq M, mm_mr M)) = some (2, none))
  | _ => true
theorem mm_kall : (mm_mt.all (fun M => (mm_mk M).all mm_kchk)) = true := by decide +kernel
theorem mm_klall : mm_kl.all mm_kchk = true := by decide +kernel
theorem mm_nsof {y : Nat} {M : mm_M} (h : mm_mt[y]? = some M) : mm_ns[y]? = some (mm_mn M) := by
  have h1 : (mm_mt.map (fun M => M.1))[y]? = some M.1 := by rw [List.getElem?_map, h]; rfl
  rw [mm_mns, List.getElem?_take] at h1
  split at h1
  · exact h1
  · cases h1
end
section
def mm_csz : mm_C → Nat
  | .inl o => o.2.length
  | .inr (.inl x) => x.2.length
  | .inr (.inr x) => x.2.length
def mm_sz (h : mm_H) : Nat := (h.map mm_csz).sum
def mm_if (q : ClassFile.Cond) (x : Int32) : Prop := match q with
  | .eq => x = 0
  | .ne => ¬ x = 0
  | .lt => x < 0
  | .ge => 0 ≤ x
  | .gt => 0 < x
  | .le => x ≤ 0
def mm_ic (q : ClassFile.Cond) (x y : Int32) : Prop := match q with
  | .eq => x = y
  | .ne => ¬ x = y
  | .lt => x < y
  | .ge => y ≤ x
  | .gt => y < x
  | .le => x ≤ y
/-- what may be put into a field: 0 an int, 1 a boolean, 2 a reference that is there (a final field) -/
def mm_fit (c : Nat) (v : mm_V) : Prop := match c with
  | 0 => ∃ x, v = .inl x
  | 1 => v = .inl 0 ∨ v = .inl 1
  | _ => ∃ r, v = .inr (some r)
def mm_rows (n k g : Nat) : mm_H := .inr (.inr (false, (List.range n).map (fun i => some (g + 1 + i)))) :: List.replicate n (.inr (.inl (false, List.replicate k 0)))
/-- one instruction: what must hold, and what must hold behind it (G) -/
def mm_one (ro : Nat → List Int32) (Ca : mm_R) (rt : Option FieldType) (hl hs : Nat) (K : Option Int32 → mm_H → Prop) (G : mm_K) (pc : Nat) (i : Instr) (a b c : Nat) (ls : mm_L) (st : List mm_V) (h : mm_H) : Prop := match i with
  | .iconst v => G (pc + 1) ls (.inl (Int32.ofInt v) :: st) h
  | .bipush v => G (pc + 2) ls (.inl (Int8.ofInt v).toInt32 :: st) h
  | .sipush v => G (pc + 3) ls (.inl (Int16.ofInt v).toInt32 :: st) h
  | .ldc _ => G (pc + 2) ls (.inl (Int32.ofNat a) :: st) h
  | .iload_n k => ∃ x, ls[k.val]? = some (some (.inl x)) ∧ G (pc + 1) ls (.inl x :: st) h
  | .iload k => ∃ x, ls[k]? = some (some (.inl x)) ∧ G (pc + 2) ls (.inl x :: st) h
  | .aload_n k => ∃ r, ls[k.val]? = some (some (.inr (some r))) ∧ G (pc + 1) ls (.inr (some r) :: st) h
  | .istore_n k => ∃ x s', st = .inl x :: s' ∧ k.val < ls.length ∧ G (pc + 1) (ls.set k.val (some (.inl x))) s' h
  | .istore k => ∃ x s', st = .inl x :: s' ∧ k < ls.length ∧ G (pc + 2) (ls.set k (some (.inl x))) s' h
  | .astore_n k => ∃ r s', st = .inr (some r) :: s' ∧ k.val < ls.length ∧ G (pc + 1) (ls.set k.val (some (.inr (some r)))) s' h
  | .iinc k v => ∃ x, ls[k]? = some (some (.inl x)) ∧ G (pc + 3) (ls.set k (some (.inl (x + Int32.ofInt v)))) st h
  | .iadd => ∃ x y s', st = .inl y :: .inl x :: s' ∧ G (pc + 1) ls (.inl (x + y) :: s') h
  | .isub => ∃ x y s', st = .inl y :: .inl x :: s' ∧ G (pc + 1) ls (.inl (x - y) :: s') h
  | .imul => ∃ x y s', st = .inl y :: .inl x :: s' ∧ G (pc + 1) ls (.inl (x * y) :: s') h
  | .iand => ∃ x y s', st = .inl y :: .inl x :: s' ∧ G (pc + 1) ls (.inl (x &&& y) :: s') h
  | .ior => ∃ x y s', st = .inl y :: .inl x :: s' ∧ G (pc + 1) ls (.inl (x ||| y) :: s') h
  | .ixor => ∃ x y s', st = .inl y :: .inl x :: s' ∧ G (pc + 1) ls (.inl (x ^^^ y) :: s') h
  | .ishl => ∃ x y s', st = .inl y :: .inl x :: s' ∧ G (pc + 1) ls (.inl (x <<< (y &&& 31)) :: s') h
  | .ishr => ∃ x y s', st = .inl y :: .inl x :: s' ∧ G (pc + 1) ls (.inl (x >>> (y &&& 31)) :: s') h
  | .idiv => ∃ x y s', st = .inl y :: .inl x :: s' ∧ ¬ y = 0 ∧ G (pc + 1) ls (.inl (x / y) :: s') h
  | .irem => ∃ x y s', st = .inl y :: .inl x :: s' ∧ ¬ y = 0 ∧ G (pc + 1) ls (.inl (x - x / y * y) :: s') h
  | .ineg => ∃ x s', st = .inl x :: s' ∧ G (pc + 1) ls (.inl (-x) :: s') h
  | .dup => ∃ v s', st = v :: s' ∧ G (pc + 1) ls (v :: v :: s') h
  | .pop => ∃ v s', st = v :: s' ∧ G (pc + 1) ls s' h
  | .dup2 => ∃ v w s', st = v :: w :: s' ∧ G (pc + 1) ls (v :: w :: v :: w :: s') h
  | .ifCond q _ => ∃ x s', st = .inl x :: s' ∧ (mm_if q x → G a ls s' h) ∧ (¬ mm_if q x → G (pc + 3) ls s' h)
  | .if_icmp q _ => ∃ x y s', st = .inl y :: .inl x :: s' ∧ (mm_ic q x y → G a ls s' h) ∧ (¬ mm_ic q x y → G (pc + 3) ls s' h)
  | .goto _ => G a ls st h
  | .tableswitch d lo hi offs => ∃ x s', st = .inl x :: s' ∧ ((x.toInt < lo ∨ hi < x.toInt) → ∃ t : Nat, (pc : Int) + d = (t : Int) ∧ G t ls s' h) ∧ (¬ (x.toInt < lo ∨ hi < x.toInt) → ∃ (o : Int) (t : Nat), offs[(x.toInt - lo).toNat]? = some o ∧ (pc : Int) + o = (t : Int) ∧ G t ls s' h)
  | .getfield _ => ∃ r fs v s', st = .inr (some (r + 3)) :: s' ∧ h[r]? = some (.inl (a, fs)) ∧ fs[b]? = some v ∧ G (pc + 3) ls (v :: s') h
  | .putfield _ => ∃ r fs v s', st = v :: .inr (some (r + 3)) :: s' ∧ h[r]? = some (.inl (a, fs)) ∧ b < fs.length ∧ mm_fit c v ∧ G (pc + 3) ls s' (h.set r (.inl (a, fs.set b v)))
  | .getstatic _ => (a = 1 ∨ a = 2) ∧ G (pc + 3) ls (.inr (some a) :: st) h
  | .iaload => ∃ i r s', st = .inl i :: .inr (some r) :: s' ∧ ((r < 3 ∧ vp_in i (ro r).length ∧ G (pc + 1) ls (.inl ((ro r).getD i.toNatClampNeg 0) :: s') h) ∨ ∃ q xs, r = q + 3 ∧ h[q]? = some (.inr (.inl (false, xs))) ∧ vp_in i xs.length ∧ G (pc + 1) ls (.inl (xs.getD i.toNatClampNeg 0) :: s') h)
  | .baload => ∃ i r s' xs, st = .inl i :: .inr (some (r + 3)) :: s' ∧ h[r]? = some (.inr (.inl (true, xs))) ∧ vp_in i xs.length ∧ G (pc + 1) ls (.inl (xs.getD i.toNatClampNeg 0) :: s') h
  | .aaload => ∃ i r s' z xs, st = .inl i :: .inr (some (r + 3)) :: s' ∧ h[r]? = some (.inr (.inr (z, xs))) ∧ vp_in i xs.length ∧ G (pc + 1) ls (.inr (xs.getD i.toNatClampNeg none) :: s') h
  | .iastore => ∃ x i r s' xs, st = .inl x :: .inl i :: .inr (some (r + 3)) :: s' ∧ h[r]? = some (.inr (.inl (false, xs))) ∧ vp_in i xs.length ∧ G (pc + 1) ls s' (h.set r (.inr (.inl (false, xs.set i.toNatClampNeg x))))
  | .bastore => ∃ x i r s' xs, st = .inl x :: .inl i :: .inr (some (r + 3)) :: s' ∧ h[r]? = some (.inr (.inl (true, xs))) ∧ vp_in i xs.length ∧ G (pc + 1) ls s' (h.set r (.inr (.inl (true, xs.set i.toNatClampNeg (vp_nar .boolean x)))))
  | .aastore => ∃ v i r s' xs vs, st = .inr (some (v + 3)) :: .inl i :: .inr (some (r + 3)) :: s' ∧ h[r]? = some (.inr (.inr (true, xs))) ∧ h[v]? = some (.inl (3, vs)) ∧ vp_in i xs.length ∧ G (pc + 1) ls s' (h.set r (.inr (.inr (true, xs.set i.toNatClampNeg (some (v + 3))))))
  | .arraylength => ∃ r s', st = .inr (some r) :: s' ∧ ((r < 3 ∧ G (pc + 1) ls (.inl (Int32.ofNat (ro r).length) :: s') h) ∨ ∃ q xs, r = q + 3 ∧ h[q]? = some (.inr (.inl (false, xs))) ∧ G (pc + 1) ls (.inl (Int32.ofNat xs.length) :: s') h)
  | .new _ => h.length + 1 ≤ hl ∧ mm_sz h + (mm_defs a).length ≤ hs ∧ G (pc + 3) ls (.inr (some (h.length + 3)) :: st) (h ++ [.inl (a, mm_defs a)])
  | .newarray t => ∃ i s', st = .inl i :: s' ∧ (t = .int ∨ t = .boolean) ∧ ¬ i < 0 ∧ i.toNatClampNeg ≤ 1000000 ∧ h.length + 1 ≤ hl ∧ mm_sz h + i.toNatClampNeg ≤ hs ∧ G (pc + 2) ls (.inr (some (h.length + 3)) :: s') (h ++ [.inr (.inl (decide (t = .boolean), List.replicate i.toNatClampNeg 0))])
  | .anewarray _ => ∃ i s', st = .inl i :: s' ∧ ¬ i < 0 ∧ i.toNatClampNeg ≤ 1000000 ∧ h.length + 1 ≤ hl ∧ mm_sz h + i.toNatClampNeg ≤ hs ∧ G (pc + 3) ls (.inr (some (h.length + 3)) :: s') (h ++ [.inr (.inr (true, List.replicate i.toNatClampNeg none))])
  | .multianewarray _ _ => ∃ n k s', st = .inl k :: .inl n :: s' ∧ ¬ n < 0 ∧ ¬ k < 0 ∧ n.toNatClampNeg ≤ 1000000 ∧ k.toNatClampNeg ≤ 1000000 ∧ h.length + (1 + n.toNatClampNeg) ≤ hl ∧ mm_sz h + (n.toNatClampNeg + n.toNatClampNeg * k.toNatClampNeg) ≤ hs ∧ G (pc + 4) ls (.inr (some (h.length + 3)) :: s') (h ++ mm_rows n.toNatClampNeg k.toNatClampNeg (h.length + 3))
  | .invokevirtual _ => ∃ as r s' fs ci rv h', st = as.reverse ++ .inr (some (r + 3)) :: s' ∧ as.length = b ∧ s'.length ≤ 8 ∧ h[r]? = some (.inl (ci, fs)) ∧ ci = c ∧ Ca a (.inr (some (r + 3)) :: as) h rv h' ∧ h.length ≤ h'.length ∧ mm_sz h ≤ mm_sz h' ∧ h'.length ≤ hl ∧ mm_sz h' ≤ hs ∧ G (pc + 3) ls ((rv.map Sum.inl).toList ++ s') h'
  | .invokestatic _ => match c with
    | 10 => ∃ x s', st = .inl x :: s' ∧ s'.length ≤ 8 ∧ h.length ≤ hl ∧ mm_sz h ≤ hs ∧ G (pc + 3) ls (.inl (if 0 ≤ x then x else 0 - x) :: s') h
    | 11 => ∃ x y s', st = .inl y :: .inl x :: s' ∧ s'.length ≤ 8 ∧ h.length ≤ hl ∧ mm_sz h ≤ hs ∧ G (pc + 3) ls (.inl (if x < y then y else x) :: s') h
    | 12 => ∃ x y s', st = .inl y :: .inl x :: s' ∧ s'.length ≤ 8 ∧ h.length ≤ hl ∧ mm_sz h ≤ hs ∧ G (pc + 3) ls (.inl (if y < x then y else x) :: s') h
    | _ => ∃ as s' rv h', st = as.reverse ++ s' ∧ as.length = b ∧ s'.length ≤ 8 ∧ Ca a as h rv h' ∧ h.length ≤ h'.length ∧ mm_sz h ≤ mm_sz h' ∧ h'.length ≤ hl ∧ mm_sz h' ≤ hs ∧ G (pc + 3) ls ((rv.map Sum.inl).toList ++ s') h'
  | .invokespecial _ => match c with
    | 2 => ∃ r s', st = .inr (some r) :: s' ∧ s'.length ≤ 8 ∧ G (pc + 3) ls s' h
    | _ => ∃ as r s' h', st = as.reverse ++ .inr (some r) :: s' ∧ as.length = b ∧ s'.length ≤ 8 ∧ Ca a (.inr (some r) :: as) h none h' ∧ h.length ≤ h'.length ∧ mm_sz h ≤ mm_sz h' ∧ h'.length ≤ hl ∧ mm_sz h' ≤ hs ∧ G (pc + 3) ls s' h'
  | .ireturn => ∃ v, st = [.inl v] ∧ (rt = some .int ∨ (rt = some .boolean ∧ (v = 0 ∨ v = 1))) ∧ K (some v) h
  | .return_ => st = [] ∧ rt = none ∧ K none h
  | _ => False
def mm_at (code : List mm_E) (pc : Nat) : Option mm_E := code.find? (fun e => e.1 == pc)
def mm_wp (ro : Nat → List Int32) (Ca : mm_R) (rt : Option FieldType) (code : List mm_E) (hl hs : Nat) (K : Option Int32 → mm_H → Prop) : Nat → mm_K
  | 0, _, _, _, _ => False
  | n + 1, pc, ls, st, h => ∃ i len a b c w, mm_at code pc = some (pc, i, len, a, b, c, w) ∧ mm_one ro Ca rt hl hs K (mm_wp ro Ca rt code hl hs K n) pc i a b c ls st h
def mm_ent (M : mm_M) (as : List mm_V) : mm_L := as.map some ++ List.replicate (mm_ml M - as.length) none
def mm_EvT (mt : List mm_M) (ro : Nat → List Int32) : Nat → mm_R
  | 0 => fun _ _ _ _ _ => False
  | d + 1 => fun y as h r h' => ∃ M, mt[y]? = some M ∧ as.length ≤ mm_ml M ∧ ∃ n, mm_wp ro (mm_EvT mt ro d) (mm_mr M) (mm_mk M) h'.length (mm_sz h') (fun r2 h2 => r2 = r ∧ h2 = h') n 0 (mm_ent M as) [] h
end
section
/-! Rows of the kit with one word more: how large the heap is behind a store, where a new cell lies. -/
section MR
variable {p : Program} {l : Launch} {e : Env} {R : Room} {s : State} {m : MethodId} {args : Array Value} {below : List Frame} {meth : Method} {c : Code} {H : Heap} {locs : List Loc} {cells slots : Nat} {Q : State → Prop}
variable {cc : ByteArray} {pc : Nat} {ls : Array Slot} {rest : List Value} {D : va_G} {cl : List vw_C} {A : Nat → Prop} {a : Nat} {tys : List (ClassId × FieldType)} {ws : va_W} {H0 : Heap}
theorem mm_vput (hexec : p.tables.exec = Jvm.exec) (hb : c.code = cc) {own ref C : String} {T : u_T} {N ci index : Nat} {Ts : List Cond} (hts : ∀ w ∈ Ts, w.before args s = true) (hin : ∀ w ∈ u_ws C T N, w ∈ Ts) (ty0 : Nat → FieldType) (hty : ∀ k, k < N → parseFieldDescriptor (T k).2.2.1 = some (ty0 k)) (hnm : ∀ a, a < N → ∀ b, b < N → a ≠ b → (T a).2.1 ≠ (T b).2.1) (hown : s.vm.findClass own = some m.cls) (hK : va_K D cl tys s) (hP : va_P D cl ws H) (hD : va_D A ws) (hS0 : va_S A H0 H locs) (q0 : Nat) {fs : List Value} (he : ws[q0]? = some (a, .inr (ci, fs))) (hc : cl[ci]? = some (C, T, N)) (k : Nat) (hk : k < N) (hlink : (Cond.fieldLink own index ref (T k).2.1 (T k).2.2.1).before args s = true) (hsame : ∀ x, s.fieldFound? (T k).1 (T k).2.1 (T k).2.2.1 = some x → s.fieldFound? ref (T k).2.1 (T k).2.2.1 = some x) (hfin : (T k).2.2.2 = false) {ty : FieldType} {v : Value} (hd : parseFieldDescriptor (T k).2.2.1 = some ty) (hn : narrow ty v = v) (hfit : fits ty v = true) (hl : k < fs.length)
    (hdg : decode cc pc = .ok (.putfield index, 3)) (kk : ∀ (H1 : Heap) (locs1 : List Loc), H1.size = H.size → va_P D cl (ws.set q0 (a, .inr (ci, fs.set k v))) H1 → va_S A H0 H1 locs1 → W p l e R s m args below meth c H1 locs1 cells slots Q (F0 m (pc + 3) ls rest)) : W p l e R s m args below meth c H locs cells slots Q (F0 m pc ls (v :: .ref a :: rest)) := by
  have hap := va_apart (own := own) hts hin ty0 hty hnm hK hc
  obtain ⟨r, h1, cell, q1, q2, q3, q4⟩ := hP q0 _ he
  have hr : r = (C, T, N) := Option.some.inj (h1.symm.trans hc)
  subst hr
  obtain ⟨hS, hfc, kC, hkC, hkind⟩ := hK.1 ci _ hc
  obtain ⟨cf, kf, fi, f, hi, hsl⟩ := hS k hk
  have hlay := hts _ (hin _ (u_in_lay hk))
  unfold u_lay at hlay
  rw [if_neg (by rw [hfin]; decide)] at hlay
  have hst := (u_facts hfc hkC (u_lays hts hin hk) hi).1
  have h6 := u_store hfc hkC hkind hlay hi hd hn hfit
  refine W.putK hexec hb (f := f) ⟨hown, hlink, ⟨_, _, _, hsame _ hi⟩, hst⟩ (by rw [q2]; exact h6) q1 q3 (by rw [hsl]; exact k2_hasslot (q4 k hk)) rfl rfl hdg fun H' e1 e2 e3 => ?_
  rw [hsl] at e1 ⊢
  exact kk H' _ e2 (hP.set hD he ⟨_, hc, t_OB.to (V := updV (vp_V fs) k v) ⟨_, e1, q2, q3, t_set q4 hap hk v⟩ (fun j _ => vp_updV_set hl v j)⟩ e3) (hS0.put e2 e3 (hD.2 q0 _ he))
theorem mm_vputF (hexec : p.tables.exec = Jvm.exec) (hb : c.code = cc) {own ref C : String} {T : u_T} {N ci index : Nat} {Ts : List Cond} (hts : ∀ w ∈ Ts, w.before args s = true) (hin : ∀ w ∈ u_ws C T N, w ∈ Ts) (ty0 : Nat → FieldType) (hty : ∀ k, k < N → parseFieldDescriptor (T k).2.2.1 = some (ty0 k)) (hnm : ∀ a, a < N → ∀ b, b < N → a ≠ b → (T a).2.1 ≠ (T b).2.1) (hown : s.vm.findClass own = some m.cls) (hK : va_K D cl tys s) (hP : va_P D cl ws H) (hD : va_D A ws) (hS0 : va_S A H0 H locs) (q0 : Nat) {fs : List Value} (he : ws[q0]? = some (a, .inr (ci, fs))) (hc : cl[ci]? = some (C, T, N)) (k : Nat) (hk : k < N) (hlink : (Cond.fieldLink own index ref (T k).2.1 (T k).2.2.1).before args s = true) (hsame : ∀ x, s.fieldFound? (T k).1 (T k).2.1 (T k).2.2.1 = some x → s.fieldFound? ref (T k).2.1 (T k).2.2.1 = some x) (hfin : (T k).2.2.2 = true) (hin2 : meth.name = "<init>") (hdecl : (T k).1 = own) {ty : FieldType} {v : Value} (hd : parseFieldDescriptor (T k).2.2.1 = some ty) (hn : narrow ty v = v) (hfit : fits ty v = true) (hl : k < fs.length)
    (hdg : decode cc pc = .ok (.putfield index, 3)) (kk : ∀ (H1 : Heap) (locs1 : List Loc), H1.size = H.size → va_P D cl (ws.set q0 (a, .inr (ci, fs.set k v))) H1 → va_S A H0 H1 locs1 → W p l e R s m args below meth c H1 locs1 cells slots Q (F0 m (pc + 3) ls rest)) : W p l e R s m args below meth c H locs cells slots Q (F0 m pc ls (v :: .ref a :: rest)) := by
  have hap := va_apart (own := own) hts hin ty0 hty hnm hK hc
  obtain ⟨r, h1, cell, q1, q2, q3, q4⟩ := hP q0 _ he
  have hr : r = (C, T, N) := Option.some.inj (h1.symm.trans hc)
  subst hr
  obtain ⟨hS, hfc, kC, hkC, hkind⟩ := hK.1 ci _ hc
  obtain ⟨cf, kf, fi, f, hi, hsl⟩ := hS k hk
  have hlay := hts _ (hin _ (u_in_lay hk))
  unfold u_lay at hlay
  rw [if_pos hfin] at hlay
  have hst := (u_facts hfc hkC (u_lays hts hin hk) hi).1
  have hcf : m.cls = cf := by
    obtain ⟨_, _, c', _, _, _, -, -, hf', -, -, -, hown2, -⟩ := Cond.laysFinal_spec hlay
    have e1 : c' = cf := by have := hi.symm.trans hf'; simp at this; exact this.1.symm
    rw [hdecl] at hown2
    rw [← e1]; exact Option.some.inj (hown.symm.trans hown2)
  have h6 := u_fits hfc hkC hkind (Or.inr hlay) hi hd hn hfit
  refine W.putFinK hexec hb hown hlink (hsame _ hi) hst hcf hin2 (by rw [q2]; exact h6) q1 q3 (by rw [hsl]; exact k2_hasslot (q4 k hk)) rfl rfl hdg fun H' e1 e2 e3 => ?_
  rw [hsl] at e1 ⊢
  exact kk H' _ e2 (hP.set hD he ⟨_, hc, t_OB.to (V := updV (vp_V fs) k v) ⟨_, e1, q2, q3, t_set q4 hap hk v⟩ (fun j _ => vp_updV_set hl v j)⟩ e3) (hS0.put e2 e3 (hD.2 q0 _ he))
theorem mm_viast (hexec : p.tables.exec = Jvm.exec) (hb : c.code = cc) (hK : va_K D cl tys s) (hP : va_P D cl ws H) (hD : va_D A ws) (hS : va_S A H0 H locs) (q0 t0 : Nat) {cA : ClassId} {n : Nat} {f : Nat → Int32} (ha : ws[q0]? = some (a, .inl (cA, n, .inl f))) (ht : tys[t0]? = some (cA, .int)) {i : Int32} {x : Int32} (hin : vp_in i n) (hdg : decode cc pc = .ok (.iastore, 1))
    (kk : ∀ (H1 : Heap) (locs1 : List Loc), H1.size = H.size → va_P D cl (ws.set q0 (a, .inl (cA, n, .inl (upd f i.toNatClampNeg x)))) H1 → va_S A H0 H1 locs1 → W p l e R s m args below meth c H1 locs1 cells slots Q (F0 m (pc + 1) ls rest)) : W p l e R s m args below meth c H locs cells slots Q (F0 m pc ls (.int x :: .int i :: .ref a :: rest)) := by
  refine W.iast hexec hb (hP q0 _ ha) ((hK.2 t0 _ ht).1 n (fun j => .int (f j))) (fun q => by cases q) (by show ¬ (i < 0 ∨ (arrV _ _ _).slots.size ≤ _); rw [arrV_size]; exact hin) rfl rfl hdg fun H1 e z oq => ?_
  refine kk H1 _ z (hP.set hD ha ?_ oq) (hS.put z oq (hD.2 q0 _ ha))
  show H1[a]? = some (vp_cell _ _)
  rw [e, vp_cell_i, vp_cell_i, arrV_store]
  congr 2
  funext q
  by_cases hq : q = i.toNatClampNeg
  · subst hq
    simp [updV, upd]
  · simp [updV, upd, hq]
theorem mm_vzast (hexec : p.tables.exec = Jvm.exec) (hb : c.code = cc) (hK : va_K D cl tys s) (hP : va_P D cl ws H) (hD : va_D A ws) (hS : va_S A H0 H locs) (q0 t0 : Nat) {cA : ClassId} {n : Nat} {f : Nat → Int32} (ha : ws[q0]? = some (a, .inl (cA, n, .inl f))) (ht : tys[t0]? = some (cA, .boolean)) {i : Int32} {x : Int32} (hin : vp_in i n) (hdg : decode cc pc = .ok (.bastore, 1))
    (kk : ∀ (H1 : Heap) (locs1 : List Loc), H1.size = H.size → va_P D cl (ws.set q0 (a, .inl (cA, n, .inl (upd f i.toNatClampNeg (vp_nar .boolean x))))) H1 → va_S A H0 H1 locs1 → W p l e R s m args below meth c H1 locs1 cells slots Q (F0 m (pc + 1) ls rest)) : W p l e R s m args below meth c H locs cells slots Q (F0 m pc ls (.int x :: .int i :: .ref a :: rest)) := by
  refine W.zast hexec hb (hP q0 _ ha) ((hK.2 t0 _ ht).1 n (fun j => .int (f j))) (fun q => by cases q) (by show ¬ (i < 0 ∨ (arrV _ _ _).slots.size ≤ _); rw [arrV_size]; exact hin) rfl rfl hdg fun H1 e z oq => ?_
  refine kk H1 _ z (hP.set hD ha ?_ oq) (hS.put z oq (hD.2 q0 _ ha))
  show H1[a]? = some (vp_cell _ _)
  rw [e, vp_cell_i, vp_cell_i, arrV_store]
  congr 2
  funext q
  by_cases hq : q = i.toNatClampNeg
  · subst hq
    simp [updV, upd, vp_nar]
    try rfl
  · simp [updV, upd, hq]
theorem mm_vastq (hexec : p.tables.exec = Jvm.exec) (hb : c.code = cc) (hK : va_K D cl tys s) (hP : va_P D cl ws H) (hD : va_D A ws) (hS : va_S A H0 H locs) (q0 t0 qk ci : Nat) {cA : ClassId} {r : vw_C} {n v : Nat} {vs : List Value} {f : Nat → Option Nat} (ha : ws[q0]? = some (a, .inl (cA, n, .inr (.inr (.inr (.inr f)))))) (ht : tys[t0]? = some (cA, .object r.1)) (hv : ws[qk]? = some (v, .inr (ci, vs))) (hc : cl[ci]? = some r) {i : Int32} (hin : vp_in i n) (hdg : decode cc pc = .ok (.aastore, 1))
    (kk : ∀ (H1 : Heap) (locs1 : List Loc), H1.size = H.size → va_P D cl (ws.set q0 (a, .inl (cA, n, .inr (.inr (.inr (.inr (va_up f i.toNatClampNeg (some v)))))))) H1 → va_S A H0 H1 locs1 → W p l e R s m args below meth c H1 locs1 cells slots Q (F0 m (pc + 1) ls rest)) : W p l e R s m args below meth c H locs cells slots Q (F0 m pc ls (.ref v :: .int i :: .ref a :: rest)) := by
  have hlt : i.toNatClampNeg < n := Nat.not_le.mp fun q => hin (Or.inr q)
  have h0 : ¬ i < 0 := fun q => hin (Or.inl q)
  obtain ⟨r', hr', cellV, g1, g2, g3, -⟩ := hP qk _ hv
  have hcls := (hK.1 ci r hc).2
  obtain ⟨kA, comp, k1, k2, k3, -⟩ := (hK.2 t0 _ ht).2
  have hcomp : comp = D.1 ci := Option.some.inj (k3.symm.trans hcls.1)
  subst hcomp
  obtain ⟨kC, hkC, -⟩ := hcls.2
  refine W.aast hexec hb (hP q0 _ ha) (fun q h => by cases h) (fun h => by cases h) k1 k2 rfl hkC ⟨h0, by show _ < (arrV _ _ _).slots.size; rw [arrV_size]; exact hlt⟩ g1 (fun q h => by rw [g3] at h; cases h) (by rw [g2]; exact hkC) (by rw [g2]; exact va_assign hcls) rfl rfl hdg fun H1 e z oq => ?_
  refine kk H1 _ z (hP.set hD ha ?_ oq) (hS.put z oq (hD.2 q0 _ ha))
  show H1[a]? = some (vp_cell _ _)
  rw [e, vp_cell_q, vp_cell_q, arrV_store]
  congr 2
  funext q
  by_cases hq : q = i.toNatClampNeg
  · subst hq
    simp [updV, va_up, va_rf]
  · simp [updV, va_up, hq]
theorem mm_aald (hexec : p.tables.exec = Jvm.exec) (hb : c.code = cc) (hK : va_K D cl tys s) (hP : va_P D cl ws H) (q0 t0 : Nat) {cA : ClassId} {ty : FieldType} {n : Nat} {f : Nat → Option Nat} (ha : ws[q0]? = some (a, .inl (cA, n, .inr (.inr (.inr (.inr f)))))) (ht : tys[t0]? = some (cA, ty)) (hty : ty.isReference = true) {i : Int32} (hin : vp_in i n) (hdg : decode cc pc = .ok (.aaload, 1))
    (kk : W p l e R s m args below meth c H locs cells slots Q (F0 m (pc + 1) ls (va_rf (f i.toNatClampNeg) :: rest))) : W p l e R s m args below meth c H locs cells slots Q (F0 m pc ls (.int i :: .ref a :: rest)) := by
  have hlt : i.toNatClampNeg < n := Nat.not_le.mp fun q => hin (Or.inr q)
  exact W.aald (v := va_rf (f i.toNatClampNeg)) (ty := ty) hexec hb (hP q0 _ ha) ((hK.2 t0 _ ht).1 n (fun j => va_rf (f j))) hty (fun q => by cases q) (by show ¬ (i < 0 ∨ (arrV _ _ _).slots.size ≤ _); rw [arrV_size]; exact hin) (by show (arrV _ _ _).slots[_]? = _; rw [arrV_read _ _ hlt]) rfl rfl hdg kk
/-- a new cell at the heap's end -/
theorem mm_pushP {x : va_E} {H1 : Heap} (hP : va_P D cl ws H) (o1 : ∀ q, q < H.size → H1[q]? = H[q]?) (hx : va_at D cl (H.size, x) H1) : va_P D cl (ws ++ [(H.size, x)]) H1 := by
  refine (hP.kept (fun k y hy => o1 y.1 ((hP k y hy).lt))).app (fun k y hy => ?_)
  have hz : k < 1 := (List.getElem?_eq_some_iff.mp hy).1
  rw [show k = 0 by omega] at hy
  cases hy
  exact hx
theorem mm_pushS {H1 : Heap} (hS : va_S A H0 H locs) (z : H.size ≤ H1.size) (o1 : ∀ q, q < H.size → H1[q]? = H[q]?) : va_S A H0 H1 locs :=
  ⟨Nat.le_trans hS.1 z, fun x h1 h2 => (o1 x (Nat.lt_of_lt_of_le h1 hS.1)).trans (hS.2.1 x h1 h2), hS.2.2⟩
theorem mm_vnew (hexec : p.tables.exec = Jvm.exec) (hb : c.code = cc) {own C : String} {T : u_T} {N ci index : Nat} {Ts : List Cond} (hts : ∀ w ∈ Ts, w.before args s = true) (hin : ∀ w ∈ u_ws C T N, w ∈ Ts) (ty : Nat → FieldType) (hty : ∀ k, k < N → parseFieldDescriptor (T k).2.2.1 = some (ty k)) (hown : s.vm.findClass own = some m.cls) (hcl : (Cond.classLink own index C).before args s = true) (hinst : (Cond.instantiable C N).before args s = true) (hini : (Cond.initialized C).before args s = true)
    (hK : va_K D cl tys s) (hP : va_P D cl ws H) (hS : va_S A H0 H locs) (hc : cl[ci]? = some (C, T, N)) {fs : List Value} (hfs : ∀ j, j < N → defaultValue (ty j) = vp_V fs j) (hcells : cells + 1 ≤ R.cells) (hslots : slots + N ≤ R.slots) (hdg : decode cc pc = .ok (.new index, 3))
    (kk : ∀ (H1 : Heap), H1.size = H.size + 1 → va_P D cl (ws ++ [(H.size, .inr (ci, fs))]) H1 → va_S A H0 H1 locs →
      W p l e R s m args below meth c H1 locs (cells + 1) (slots + N) Q (F0 m (pc + 3) ls (.ref H.size :: rest))) : W p l e R s m args below meth c H locs cells slots Q (F0 m pc ls rest) := by
  have hKn := hK.1 ci _ hc
  refine W.newcK hexec hb hown hcl hinst hini rfl hdg hcells hslots hKn.2.1 rfl fun H1 kC hkC e1 z1 o1 => ?_
  exact kk H1 z1 (mm_pushP hP o1 ⟨_, hc, (u_born ty hts hin hKn hkC e1 hty).to hfs⟩) (mm_pushS hS (by omega) o1)
theorem mm_vnewa (hexec : p.tables.exec = Jvm.exec) (hb : c.code = cc) {atype : ArrayType} (harr : (Cond.arrayClass (newarray.typeOf atype)).before args s = true) {cA : ClassId} (hcA : s.vm.findClass ("[" ++ (newarray.typeOf atype).toString) = some cA) (hP : va_P D cl ws H) (hS : va_S A H0 H locs)
    {n : Int32} {a0 : vp_A} (ha : ∀ cA : ClassId, vp_cell cA a0 = arrV cA n.toNatClampNeg (fun _ => defaultValue (newarray.typeOf atype))) (hn : ¬ n < 0) (hbytes : n.toNatClampNeg * componentBytes (newarray.typeOf atype) ≤ 536870912) (hcells : cells + 1 ≤ R.cells) (hslots : slots + n.toNatClampNeg ≤ R.slots) (hdg : decode cc pc = .ok (.newarray atype, 2))
    (kk : ∀ (H1 : Heap), H1.size = H.size + 1 → va_P D cl (ws ++ [(H.size, .inl (cA, a0))]) H1 → va_S A H0 H1 locs →
      W p l e R s m args below meth c H1 locs (cells + 1) (slots + n.toNatClampNeg) Q (F0 m (pc + 2) ls (.ref H.size :: rest))) : W p l e R s m args below meth c H locs cells slots Q (F0 m pc ls (.int n :: rest)) := by
  refine va_newaK hexec hb harr rfl hdg rfl hn rfl hbytes hcells hslots rfl fun H1 cA' e1 z1 o1 hAr hNm => ?_
  have hq : cA' = cA := Option.some.inj (hNm.symm.trans hcA)
  subst hq
  refine kk H1 z1 (mm_pushP hP o1 ?_) (mm_pushS hS (by omega) o1)
  show H1[H.size]? = some (vp_cell _ _)
  rw [ha]
  exact e1
theorem mm_vnewq (hexec : p.tables.exec = Jvm.exec) (hb : c.code = cc) {own C : String} {index : Nat} (hown : s.vm.findClass own = some m.cls) (hclink : (Cond.classLink own index C).before args s = true) (hover : va_AO C s) {cA : ClassId} (hcA : s.vm.findClass ("[" ++ (FieldType.object C).toString) = some cA) (hP : va_P D cl ws H) (hS : va_S A H0 H locs)
    {n : Int32} (hn : ¬ n < 0) (hbytes : n.toNatClampNeg * 4 ≤ 536870912) (hcells : cells + 1 ≤ R.cells) (hslots : slots + n.toNatClampNeg ≤ R.slots) (hdg : decode cc pc = .ok (.anewarray index, 3))
    (kk : ∀ (H1 : Heap), H1.size = H.size + 1 → va_P D cl (ws ++ [(H.size, .inl (cA, n.toNatClampNeg, .inr (.inr (.inr (.inr (fun _ => none))))))]) H1 → va_S A H0 H1 locs →
      W p l e R s m args below meth c H1 locs (cells + 1) (slots + n.toNatClampNeg) Q (F0 m (pc + 3) ls (.ref H.size :: rest))) : W p l e R s m args below meth c H locs cells slots Q (F0 m pc ls (.int n :: rest)) := by
  refine W.anew hexec hb hown hclink (va_AO.use hover) rfl hdg rfl hn hbytes hcells hslots fun cA' kA comp f1 f2 f3 f4 => ?_
  have hq : cA' = cA := Option.some.inj (by first | exact f4.symm.trans hcA | exact f1.symm.trans hcA | exact f2.symm.trans hcA | exact f3.symm.trans hcA)
  subst hq
  generalize hH1 : H.push ({ cls := cA', slots := Array.replicate n.toNatClampNeg .null, vm := .none } : Cell) = H1
  have z1 : H1.size = H.size + 1 := by rw [← hH1, Array.size_push]
  have e1 : H1[H.size]? = some (arrV cA' n.toNatClampNeg (fun _ => .null)) := by rw [← hH1, Array.getElem?_push_size, ← arrV_new]
  have o1 : ∀ q, q < H.size → H1[q]? = H[q]? := fun q hq => by rw [← hH1, Array.getElem?_push, if_neg (Nat.ne_of_lt hq)]
  exact kk H1 z1 (mm_pushP hP o1 e1) (mm_pushS hS (by omega) o1)
end MR
end
section
/-! What the little machine does, the machine does. -/
section MS
theorem mm_outer (c : ClassId) (N h0 : Nat) : ∀ i : Nat, Jvm.Free.Multi.outerC c N h0 i = arrV c N (fun j => va_rf (if j < i then some (h0 + 1 + j) else none))
  | 0 => by
    show ({ cls := c, slots := Array.replicate N .null, vm := .none } : Cell) = _
    rw [arrV_new]
    refine congrArg (arrV c N) (funext fun j => ?_)
    simp [va_rf]
  | i + 1 => by
    show (Jvm.Free.Multi.outerC c N h0 i).setSlot i (.ref (h0 + 1 + i)) = _
    rw [mm_outer c N h0 i, arrV_store]
    refine congrArg (arrV c N) (funext fun j => ?_)
    by_cases e : j = i
    · subst e
      simp [updV, va_rf]
    · by_cases h : j < i
      · simp [updV, e, h, Nat.lt_succ_of_lt h]
      · simp [updV, e, h, show ¬ j < i + 1 by omega]
section MNA
variable {p : Program} {l : Launch} {e : Env} {R : Room} {s : State} {m : MethodId} {args : Array Value} {below : List Frame} {meth : Method} {c : Code} {H : Heap} {locs : List Loc} {cells slots : Nat} {Q : State → Prop}
variable {cc : ByteArray} {pc : Nat} {ls : Array Slot} {rest : List Value} {D : va_G} {cl : List vw_C} {A : Nat → Prop} {a : Nat} {tys : List (ClassId × FieldType)} {ws : va_W} {H0 : Heap}
theorem mm_vmna (hexec : p.tables.exec = Jvm.exec) (hb : c.code = cc) {own : String} {index : Nat} {cA cy : ClassId} (hown : s.vm.findClass own = some m.cls) (hclink : (Cond.classLink own index "[[I").before args s = true) (hover : (Cond.arrayOver (.array .int)).before args s = true) (harr : (Cond.arrayClass .int).before args s = true) (hcA : s.vm.findClass ("[" ++ (FieldType.array .int).toString) = some cA) (hcy : s.vm.findClass (FieldType.array .int).toString = some cy)
    (hP : va_P D cl ws H) (hS : va_S A H0 H locs) {n k : Int32} (hn : ¬ n < 0) (hk : ¬ k < 0)
    (hb1 : n.toNatClampNeg * 4 ≤ 536870912) (hb2 : k.toNatClampNeg * 4 ≤ 536870912) (hcells : cells + (1 + n.toNatClampNeg) ≤ R.cells) (hslots : slots + (n.toNatClampNeg + n.toNatClampNeg * k.toNatClampNeg) ≤ R.slots) (hdg : decode cc pc = .ok (.multianewarray index 2, 4))
    (kk : ∀ (H1 : Heap), H1.size = H.size + 1 + n.toNatClampNeg → va_P D cl ((ws ++ [(H.size, .inl (cA, n.toNatClampNeg, .inr (.inr (.inr (.inr (fun i => if i < n.toNatClampNeg then some (H.size + 1 + i) else none))))))]) ++ (List.range n.toNatClampNeg).map (fun i => (H.size + 1 + i, .inl (cy, k.toNatClampNeg, .inl (fun _ => 0))))) H1 → va_S A H0 H1 locs →
      W p l e R s m args below meth c H1 locs (cells + 1 + n.toNatClampNeg) (slots + n.toNatClampNeg + n.toNatClampNeg * k.toNatClampNeg) Q (F0 m (pc + 4) ls (.ref H.size :: rest))) : W p l e R s m args below meth c H locs cells slots Q (F0 m pc ls (.int k :: .int n :: rest)) := by
  intro T hT Xs
  obtain ⟨vm₁, cA', comp, -, fA, fC, hO, -, X', step⟩ := Xs.multianewarray2F hexec (ty := .int) hown hclink hover harr (g := F0 m pc ls (.int k :: .int n :: rest)) rfl (by rw [hb]; exact hdg) rfl hn hk hb1 hb2 (by omega) rfl rfl hcells hslots
  have e1 : cA' = cA := Option.some.inj (fA.symm.trans hcA)
  have e2 : comp = cy := Option.some.inj (fC.symm.trans hcy)
  subst e1; subst e2
  generalize hF : Jvm.Free.Multi.fill (T.setVm vm₁) cA' comp n.toNatClampNeg k.toNatClampNeg (defaultValue .int) n.toNatClampNeg = F at X' step
  have hTh : (T.setVm vm₁).heap = H := hT
  obtain ⟨f1, f2, -, -⟩ := Jvm.Free.Multi.fill_facts (T.setVm vm₁) cA' comp n.toNatClampNeg k.toNatClampNeg (defaultValue .int) n.toNatClampNeg
  rw [hF, hTh] at f1 f2
  have hold : ∀ x : Nat, x < H.size → F.heap[x]? = H[x]? := fun x hx => by
    have := Jvm.Free.Multi.fill_old (T.setVm vm₁) cA' comp n.toNatClampNeg k.toNatClampNeg (defaultValue .int) (a := x) (by rw [hTh]; exact hx) n.toNatClampNeg
    rw [hF, hTh] at this
    exact this
  have hz : Jvm.Free.Multi.innerC comp k.toNatClampNeg (defaultValue .int) = vp_cell comp (k.toNatClampNeg, .inl (fun _ => 0)) := by
    rw [vp_cell_i]
    exact arrV_new comp k.toNatClampNeg (.int 0)
  have hrow : ∀ j : Nat, j < n.toNatClampNeg → F.heap[H.size + 1 + j]? = some (vp_cell comp (k.toNatClampNeg, .inl (fun _ => 0))) := fun j hj => by
    have := Jvm.Free.Multi.fill_inner (T.setVm vm₁) cA' comp n.toNatClampNeg k.toNatClampNeg (defaultValue .int) n.toNatClampNeg j hj
    rw [hF, hTh, hz] at this
    exact this
  rw [mm_outer cA' n.toNatClampNeg H.size n.toNatClampNeg] at f2
  have hP1 := mm_pushP (x := .inl (cA', n.toNatClampNeg, .inr (.inr (.inr (.inr (fun i => if i < n.toNatClampNeg then some (H.size + 1 + i) else none)))))) hP hold f2
  have hP2 : va_P D cl ((ws ++ [(H.size, .inl (cA', n.toNatClampNeg, .inr (.inr (.inr (.inr (fun i => if i < n.toNatClampNeg then some (H.size + 1 + i) else none))))))]) ++ (List.range n.toNatClampNeg).map (fun i => (H.size + 1 + i, .inl (comp, k.toNatClampNeg, .inl (fun _ => 0))))) F.heap := hP1.app (fun k9 x hx => by
    obtain ⟨i, hi, rfl⟩ := List.mem_map.mp (List.mem_of_getElem? hx)
    exact hrow i (List.mem_range.mp hi))
  obtain ⟨t, a1, b1⟩ := kk F.heap f1 hP2 (mm_pushS hS (by rw [f1]; omega) hold) F rfl X'
  refine ⟨t, step t ?_, b1⟩
  have e : T.heap.size = H.size := by rw [hT]
  rw [e]
  exact a1
end MNA
/-! words -/
def mm_rv (ad : Nat → Nat) : mm_V → Value
  | .inl x => .int x
  | .inr r => va_rf (r.map ad)
def mm_GW : List Cond := lw_tbl.filter goodWord
theorem mm_gw {w : Cond} {i : Nat} (h : lw_tbl[i]? = some w) (hg : goodWord w = true) : w ∈ mm_GW := List.mem_filter.mpr ⟨List.mem_of_getElem? h, hg⟩
theorem mm_gin {ws : List Cond} (h : ∀ w ∈ ws, w ∈ mm_GW) : GoodIn mm_GW ws := fun w hw => ⟨h w hw, good_of_word (List.mem_filter.mp (h w hw)).2⟩
theorem mm_glay {C : String} {T : u_T} {N : Nat} (h : ∀ w ∈ u_ws C T N, w ∈ lw_tbl) : ∀ w ∈ u_ws C T N, w ∈ mm_GW := fun w hw => by
  refine List.mem_filter.mpr ⟨h w hw, ?_⟩
  obtain ⟨k, -, rfl⟩ := List.mem_map.mp hw
  unfold u_lay
  split <;> rfl
/-- all that is known of a class by its number -/
def mm_CK (a : Nat) (q : vw_C) : Prop := (∀ w ∈ u_ws q.1 q.2.1 q.2.2, w ∈ mm_GW) ∧ (∃ ty0 : Nat → FieldType, (∀ k, k < q.2.2 → parseFieldDescriptor (q.2.1 k).2.2.1 = some (ty0 k)) ∧ ∀ ad : Nat → Nat, ∀ j, j < q.2.2 → defaultValue (ty0 j) = vp_V ((mm_defs a).map (mm_rv ad)) j) ∧ (∀ a, a < q.2.2 → ∀ b, b < q.2.2 → a ≠ b → (q.2.1 a).2.1 ≠ (q.2.1 b).2.1) ∧ .instantiable q.1 q.2.2 ∈ mm_GW ∧ .initialized q.1 ∈ mm_GW
theorem mm_dv {N : Nat} {ty0 : Nat → FieldType} {ds : List (Int32 ⊕ Option Nat)} (h : ∀ j, j < N → (ds[j]? = some (.inl 0) ∧ (ty0 j = .int ∨ ty0 j = .boolean)) ∨ (ds[j]? = some (.inr none) ∧ (ty0 j).isReference = true)) (ad : Nat → Nat) : ∀ j, j < N → defaultValue (ty0 j) = vp_V (ds.map (mm_rv ad)) j := by
  intro j hj
  rcases h j hj with ⟨h1, h2 | h2⟩ | ⟨h1, h2⟩
  · rw [h2]
    simp [vp_V, List.getD_eq_getElem?_getD, List.getElem?_map, h1, defaultValue, mm_rv]
  · rw [h2]
    simp [vp_V, List.getD_eq_getElem?_getD, List.getElem?_map, h1, defaultValue, mm_rv]
  · have : defaultValue (ty0 j) = .null := by
      cases ht : ty0 j <;> rw [ht] at h2 <;> first | rfl | (simp [FieldType.isReference] at h2)
    rw [this]
    simp [vp_V, List.getD_eq_getElem?_getD, List.getElem?_map, h1, va_rf, mm_rv]
theorem mm_ck0 : mm_CK 0 ("LineMap$Law", mm_T0, 6) := ⟨mm_glay mm_lay0, ⟨mm_ty0, mm_tok0, fun ad => mm_dv (ty0 := mm_ty0) (by decide +kernel) ad⟩, mm_nm0, mm_gw mm_ins0.1 rfl, mm_gw mm_ins0.2 rfl⟩
theorem mm_ck1 : mm_CK 1 ("LineMap$Names", mm_T1, 8) := ⟨mm_glay mm_lay1, ⟨mm_ty1, mm_tok1, fun ad => mm_dv (ty0 := mm_ty1) (by decide +kernel) ad⟩, mm_nm1, mm_gw mm_ins1.1 rfl, mm_gw mm_ins1.2 rfl⟩
theorem mm_ck2 : mm_CK 2 ("LineMap$Net", mm_T2, 14) := ⟨mm_glay mm_lay2, ⟨mm_ty2, mm_tok2, fun ad => mm_dv (ty0 := mm_ty2) (by decide +kernel) ad⟩, mm_nm2, mm_gw mm_ins2.1 rfl, mm_gw mm_ins2.2 rfl⟩
theorem mm_ck3 : mm_CK 3 ("LineMap$Plan", mm_T3, 5) := ⟨mm_glay mm_lay3, ⟨mm_ty3, mm_tok3, fun ad => mm_dv (ty0 := mm_ty3) (by decide +kernel) ad⟩, mm_nm3, mm_gw mm_ins3.1 rfl, mm_gw mm_ins3.2 rfl⟩
theorem mm_ck4 : mm_CK 4 ("LineMap$Price", mm_T4, 3) := ⟨mm_glay mm_lay4, ⟨mm_ty4, mm_tok4, fun ad => mm_dv (ty0 := mm_ty4) (by decide +kernel) ad⟩, mm_nm4, mm_gw mm_ins4.1 rfl, mm_gw mm_ins4.2 rfl⟩
theorem mm_ck5 : mm_CK 5 ("LineMap$Search", mm_T5, 15) := ⟨mm_glay mm_lay5, ⟨mm_ty5, mm_tok5, fun ad => mm_dv (ty0 := mm_ty5) (by decide +kernel) ad⟩, mm_nm5, mm_gw mm_ins5.1 rfl, mm_gw mm_ins5.2 rfl⟩
theorem mm_ck6 : mm_CK 6 ("LineMap$Terms", mm_T6, 4) := ⟨mm_glay mm_lay6, ⟨mm_ty6, mm_tok6, fun ad => mm_dv (ty0 := mm_ty6) (by decide +kernel) ad⟩, mm_nm6, mm_gw mm_ins6.1 rfl, mm_gw mm_ins6.2 rfl⟩
theorem mm_ck7 : mm_CK 7 ("LineMap", mm_T7, 10) := ⟨mm_glay mm_lay7, ⟨mm_ty7, mm_tok7, fun ad => mm_dv (ty0 := mm_ty7) (by decide +kernel) ad⟩, mm_nm7, mm_gw mm_ins7.1 rfl, mm_gw mm_ins7.2 rfl⟩
theorem mm_ck8 : mm_CK 8 ("LineMapModel", mm_T8, 32) := ⟨mm_glay mm_lay8, ⟨mm_ty8, mm_tok8, fun ad => mm_dv (ty0 := mm_ty8) (by decide +kernel) ad⟩, mm_nm8, mm_gw mm_ins8.1 rfl, mm_gw mm_ins8.2 rfl⟩
theorem mm_ck : ∀ (a : Nat) (q : vw_C), mm_cl[a]? = some q → mm_CK a q
  | 0, q, h => by cases h; exact mm_ck0
  | 1, q, h => by cases h; exact mm_ck1
  | 2, q, h => by cases h; exact mm_ck2
  | 3, q, h => by cases h; exact mm_ck3
  | 4, q, h => by cases h; exact mm_ck4
  | 5, q, h => by cases h; exact mm_ck5
  | 6, q, h => by cases h; exact mm_ck6
  | 7, q, h => by cases h; exact mm_ck7
  | 8, q, h => by cases h; exact mm_ck8
  | n + 9, q, h => by simp [mm_cl] at h
/-! pictures -/
def mm_rc (ca : Nat → ClassId) (ad : Nat → Nat) : mm_C → va_E
  | .inl o => .inr (o.1, o.2.map (mm_rv ad))
  | .inr (.inl x) => .inl (bif x.1 then ca 1 else ca 0, x.2.length, .inl (fun j => x.2.getD j 0))
  | .inr (.inr x) => .inl (bif x.1 then ca 2 else ca 3, x.2.length, .inr (.inr (.inr (.inr (fun j => (x.2.getD j none).map ad)))))
def mm_rd (ca : Nat → ClassId) (ad : Nat → Nat) (base : Nat) (h : mm_H) : va_W := h.mapIdx (fun i c => (base + i, mm_rc ca ad c))
abbrev mm_tys (ca : Nat → ClassId) : List (ClassId × FieldType) := [(ca 0, .int), (ca 1, .boolean), (ca 2, .object "LineMap$Plan"), (ca 3, .array .int)]
theorem mm_look {ca : Nat → ClassId} {ad : Nat → Nat} {base : Nat} {h : mm_H} {r : Nat} {x : mm_C} (had : ∀ k, ad (k + 3) = base + k) (hr : h[r]? = some x) : (mm_rd ca ad base h)[r]? = some (ad (r + 3), mm_rc ca ad x) := by
  rw [had, mm_rd, List.getElem?_mapIdx, hr]
  rfl
theorem mm_rset {ca : Nat → ClassId} {ad : Nat → Nat} {base : Nat} {h : mm_H} {r : Nat} {x : mm_C} (had : ∀ k, ad (k + 3) = base + k) : (mm_rd ca ad base h).set r (ad (r + 3), mm_rc ca ad x) = mm_rd ca ad base (h.set r x) := by
  refine List.ext_getElem? fun i => ?_
  rw [had, mm_rd, mm_rd, List.getElem?_mapIdx, List.getElem?_set, List.getElem?_set, List.length_mapIdx, List.getElem?_mapIdx]
  by_cases hi : r = i
  · subst hi
    by_cases hl : r < h.length
    · simp [hl]
    · simp [hl]
  · simp [hi]
theorem mm_rpush {ca : Nat → ClassId} {ad : Nat → Nat} {base : Nat} {h : mm_H} {x : mm_C} : mm_rd ca ad base (h ++ [x]) = mm_rd ca ad base h ++ [(base + h.length, mm_rc ca ad x)] := by
  simp [mm_rd, List.mapIdx_append]
theorem mm_rD {ca : Nat → ClassId} {ad : Nat → Nat} {base : Nat} {h : mm_H} : va_D (fun q => base ≤ q) (mm_rd ca ad base h) := by
  have key : ∀ (k : Nat) (q : Nat × va_E), (mm_rd ca ad base h)[k]? = some q → q.1 = base + k := by
    intro k q hq
    rw [mm_rd, List.getElem?_mapIdx] at hq
    cases hk : h[k]? with
    | none => rw [hk] at hq; cases hq
    | some x => rw [hk] at hq; cases hq; rfl
  refine ⟨fun i j x y hi hj hxy => ?_, fun k q hq => ?_⟩
  · have := key i x hi
    have := key j y hj
    omega
  · have := key k q hq
    show base ≤ q.1
    omega
def mm_Env (ro : Nat → List Int32) (base : Nat) (ad : Nat → Nat) (D : va_G) (ca : Nat → ClassId) (U : State) : Prop :=
  va_K D mm_cl (mm_tys ca) U ∧ va_Nw (.methodLinkNest "LineMap" 25 ⟨"LineMap$Terms", "<init>", "()V"⟩ "LineMap") U ∧ va_Nw (.methodLinkNest "LineMap$Search" 129 ⟨"LineMap", "isWithin", "(III)Z"⟩ "LineMap") U ∧ va_Nw (.fieldLinkNest "LineMap$Search" 123 "LineMap" "STEP_X" "[I" "LineMap") U ∧ va_Nw (.fieldLinkNest "LineMap$Search" 126 "LineMap" "STEP_Y" "[I" "LineMap") U ∧ (Cond.arrayOver (.array .int)).before #[] U = true ∧ va_AO "LineMap$Plan" U ∧
  (∀ k, k < 3 → va_T .int (ad k) (ro k).length (fun j => .int ((ro k).getD j 0)) (fun q => base ≤ q) U U.heap) ∧ va_Z "LineMap" "STEP_X" "[I" (.ref (ad 1)) (fun q => base ≤ q) U U.heap ∧ va_Z "LineMap" "STEP_Y" "[I" (.ref (ad 2)) (fun q => base ≤ q) U U.heap
theorem mm_Env.go {ro : Nat → List Int32} {base : Nat} {ad : Nat → Nat} {D : va_G} {ca : Nat → ClassId} {s U : State} (h : mm_Env ro base ad D ca s) (hW : s.WarmedH U.vm) (hq : ∀ q : Nat, q < base → U.heap[q]? = s.heap[q]?) : mm_Env ro base ad D ca U := by
  obtain ⟨h1, h2, h3, h4, h5, h6, h7, h8, h9, h10⟩ := h
  have ha := hW.alike
  refine ⟨va_K.moved ha h1, va_Nw.warmM hW h2, va_Nw.warmM hW h3, va_Nw.warmF hW h4, va_Nw.warmF hW h5, over_moved ha h6, va_AO.moved ha h7, fun k hk => va_T.moved ha (va_T.kept (h8 k hk) fun q _ hn => hq q (Nat.not_le.mp hn)), va_Z.moved ha (va_Z.kept h9 fun q _ hn => hq q (Nat.not_le.mp hn)), va_Z.moved ha (va_Z.kept h10 fun q _ hn => hq q (Nat.not_le.mp hn))⟩
theorem mm_Env.same {ro : Nat → List Int32} {base : Nat} {ad : Nat → Nat} {D : va_G} {ca : Nat → ClassId} {s U : State} (h : mm_Env ro base ad D ca s) (hv : U.vm = s.vm) (hh : U.heap = s.heap) : mm_Env ro base ad D ca U := by
  obtain ⟨h1, h2, h3, h4, h5, h6, h7, h8, h9, h10⟩ := h
  have ha : s.vm.Alike U.vm := by rw [hv]; exact Vm.Alike.refl _
  have hq : ∀ q : Nat, U.heap[q]? = s.heap[q]? := fun q => by rw [hh]
  exact ⟨va_K.moved ha h1, va_Nw.same rfl hv.symm h2, va_Nw.same rfl hv.symm h3, va_Nw.same rfl hv.symm h4, va_Nw.same rfl hv.symm h5, over_moved ha h6, va_AO.moved ha h7, fun k hk => va_T.moved ha (va_T.kept (h8 k hk) fun q _ _ => hq q), va_Z.moved ha (va_Z.kept h9 fun q _ _ => hq q), va_Z.moved ha (va_Z.kept h10 fun q _ _ => hq q)⟩
def mm_Pc (ro : Nat → List Int32) (base : Nat) (ad : Nat → Nat) (D : va_G) (ca : Nat → ClassId) (as : List mm_V) (h : mm_H) : Array Value → State → Prop := va_Pc (as.map (mm_rv ad)) (fun U => U.heap.size = base + h.length ∧ va_P D mm_cl (mm_rd ca ad base h) U.heap ∧ mm_Env ro base ad D ca U)
def mm_Qc (base : Nat) (ad : Nat → Nat) (D : va_G) (ca : Nat → ClassId) (r : Option Int32) (h' : mm_H) : Array Value → State → Outcome → State → Prop := match r with
  | some x => va_Qi (S := Unit) (fun y _ => y = x) (fun _ t => t.heap.size = base + h'.length ∧ va_P D mm_cl (mm_rd ca ad base h') t.heap) (fun q => base ≤ q)
  | none => va_Qv (S := Unit) (fun _ => True) (fun _ t => t.heap.size = base + h'.length ∧ va_P D mm_cl (mm_rd ca ad base h') t.heap) (fun q => base ≤ q)
def mm_ws (M : mm_M) : List Cond := .code (mm_mn M) (mm_mb M) (mm_ml M) (mm_mr M) :: mm_GW
def mm_Mt (l : Launch) (ro : Nat → List Int32) (base : Nat) (ad : Nat → Nat) (D : va_G) (ca : Nat → ClassId) (M : mm_M) (d : Nat) (as : List mm_V) (h : mm_H) (r : Option Int32) (h' : mm_H) : Prop :=
  Met l (mm_mn M) (mm_ws M) ({ frames := d, cells := h'.length - h.length, slots := mm_sz h' - mm_sz h, locals := 64 * d }) (mm_Pc ro base ad D ca as h) (mm_Qc base ad D ca r h') (h'.length - h.length) (mm_sz h' - mm_sz h) (fun q => base ≤ q)
theorem mm_blind {ro : Nat → List Int32} {base : Nat} {ad : Nat → Nat} {D : va_G} {ca : Nat → ClassId} {as : List mm_V} {h : mm_H} : FrameBlind (mm_Pc ro base ad D ca as h) := fun a U g mk q => by
  obtain ⟨q0, q1, q2, q3⟩ := q
  exact ⟨q0, q1, q2, q3.same rfl rfl⟩
/-! locals -/
def mm_LH (ad : Nat → Nat) (nL : Nat) (ls : mm_L) (lr : Array Slot) : Prop := lr.size = nL ∧ lv_wf lr ∧ ls.length = nL ∧ ∀ (k : Nat) (v : mm_V), ls[k]? = some (some v) → lr[k]? = some (Slot.val (mm_rv ad v))
def mm_al (ad : Nat → Nat) (ls : mm_L) : List (Nat × Value) := (List.range ls.length).filterMap (fun k => (ls[k]?.join).map (fun v => (k, mm_rv ad v)))
theorem mm_cat (ad : Nat → Nat) (v : mm_V) : (mm_rv ad v).category = 1 := by
  rcases v with x | r
  · rfl
  · cases r <;> rfl
theorem mm_al_mem {ad : Nat → Nat} {ls : mm_L} {k : Nat} {v : mm_V} (h : ls[k]? = some (some v)) : (k, mm_rv ad v) ∈ mm_al ad ls := by
  refine List.mem_filterMap.mpr ⟨k, List.mem_range.mpr (List.getElem?_eq_some_iff.mp h).1, ?_⟩
  rw [h]
  rfl
theorem mm_al_of {ad : Nat → Nat} {ls : mm_L} {q : Nat × Value} (h : q ∈ mm_al ad ls) : ∃ v, ls[q.1]? = some (some v) ∧ q.2 = mm_rv ad v := by
  obtain ⟨k, -, hk⟩ := List.mem_filterMap.mp h
  cases hl : ls[k]? with
  | none => rw [hl] at hk; cases hk
  | some o =>
    cases o with
    | none => rw [hl] at hk; cases hk
    | some v =>
      rw [hl] at hk
      cases hk
      exact ⟨v, hl, rfl⟩
theorem mm_LH.has {ad : Nat → Nat} {nL : Nat} {ls : mm_L} {lr : Array Slot} (h : mm_LH ad nL ls lr) : lv_has lr nL (mm_al ad ls) := by
  refine ⟨h.1, h.2.1, fun q hq => ?_⟩
  obtain ⟨v, h1, h2⟩ := mm_al_of hq
  rw [h2]
  exact h.2.2.2 _ _ h1
theorem mm_LH.put {ad : Nat → Nat} {nL i : Nat} {ls : mm_L} {lr lr' : Array Slot} {v : mm_V} (h : mm_LH ad nL ls lr) (h' : lv_has lr' nL ((i, mm_rv ad v) :: (mm_al ad ls).filter (fun q => !(q.1 == i) && !(q.1 + 1 == i && q.2.category == 2)))) : mm_LH ad nL (ls.set i (some v)) lr' := by
  refine ⟨h'.1, h'.2.1, by rw [List.length_set]; exact h.2.2.1, fun k w hk => ?_⟩
  rw [List.getElem?_set] at hk
  by_cases hi : i = k
  · subst hi
    rw [if_pos rfl] at hk
    split at hk
    · cases hk
      exact h'.2.2 (i, mm_rv ad v) List.mem_cons_self
    · cases hk
  · rw [if_neg hi] at hk
    refine h'.2.2 (k, mm_rv ad w) (List.mem_cons_of_mem _ (List.mem_filter.mpr ⟨mm_al_mem hk, ?_⟩))
    have hk2 : ¬ k = i := fun e => hi e.symm
    simp [hk2, mm_cat]
theorem mm_sl (ad : Nat → Nat) (as : List mm_V) : (lg_sl (as.map (mm_rv ad))).length = as.length := by
  induction as with
  | nil => rfl
  | cons v t ih =>
    have hc := mm_cat ad v
    have h2 : lg_sl ((v :: t).map (mm_rv ad)) = [.val (mm_rv ad v)] ++ lg_sl (t.map (mm_rv ad)) := by
      simp [lg_sl, hc]
    rw [h2, List.length_append, ih]
    simp [Nat.add_comm]
theorem mm_args (ad : Nat → Nat) : ∀ (as : List mm_V) (i k : Nat) (v : mm_V), as[k]? = some v → (i + k, mm_rv ad v) ∈ lv_args i (as.map (mm_rv ad))
  | [], _, _, _, h => by simp at h
  | a :: t, i, 0, v, h => by
    simp at h
    subst h
    simp [lv_args]
  | a :: t, i, k + 1, v, h => by
    simp at h
    have h1 := mm_args ad t (i + 1) k v h
    have hc := mm_cat ad a
    simp only [List.map_cons, lv_args, hc]
    rw [if_neg (by decide)]
    refine List.mem_cons_of_mem _ ?_
    rw [show i + (k + 1) = i + 1 + k by omega]
    exact h1
theorem mm_entry {ad : Nat → Nat} {M : mm_M} {as : List mm_V} (h : as.length ≤ mm_ml M) : mm_LH ad (mm_ml M) (mm_ent M as) ((lg_sl (as.map (mm_rv ad)) ++ List.replicate (mm_ml M - (lg_sl (as.map (mm_rv ad))).length) Slot.unset).toArray) := by
  have h1 := lv_entry (as.map (mm_rv ad)) (n := mm_ml M) (by rw [mm_sl]; exact h)
  refine ⟨h1.1, h1.2.1, by simp [mm_ent]; omega, fun k v hk => ?_⟩
  have h2 : as[k]? = some v := by
    unfold mm_ent at hk
    rw [List.getElem?_append] at hk
    split at hk
    · rw [List.getElem?_map] at hk
      cases ha : as[k]? with
      | none => rw [ha] at hk; cases hk
      | some w => rw [ha] at hk; cases hk; rfl
    · rw [List.getElem?_replicate] at hk
      split at hk <;> cases hk
  have h3 := mm_args ad as 0 k v h2
  rw [Nat.zero_add] at h3
  exact h1.2.2 _ h3
end MS
end
section
/-! The step of the little machine is a step of the machine: instruction by instruction. -/
section MX
theorem mm_fok {cls : String} {i a b w : Nat} (h : mm_fchk cls i a b w = true) : ∃ C T N, mm_cl[a]? = some (C, T, N) ∧ b < N ∧ lw_tbl[w]? = some (.fieldLink cls i (T b).1 (T b).2.1 (T b).2.2.1) := by
  unfold mm_fchk at h
  cases hc : mm_cl[a]? with
  | none => rw [hc] at h; cases h
  | some q =>
    obtain ⟨C, T, N⟩ := q
    rw [hc] at h
    rw [Bool.and_eq_true] at h
    exact ⟨C, T, N, rfl, of_decide_eq_true h.1, of_decide_eq_true h.2⟩
theorem mm_rty {d : String} (h : (match parseFieldDescriptor d with | some t => t.isReference | none => false) = true) : ∃ t, parseFieldDescriptor d = some t ∧ t.isReference = true := by
  cases hd : parseFieldDescriptor d with
  | none => rw [hd] at h; cases h
  | some t => rw [hd] at h; exact ⟨t, rfl, h⟩
theorem mm_rfit {t : FieldType} (h : t.isReference = true) (a : Nat) : narrow t (.ref a) = .ref a ∧ fits t (.ref a) = true := by
  cases t <;> first | exact ⟨rfl, rfl⟩ | (simp [FieldType.isReference] at h)
theorem mm_sset {h : mm_H} {r : Nat} {x y : mm_C} (hr : h[r]? = some x) (hc : mm_csz y = mm_csz x) : mm_sz (h.set r y) = mm_sz h := by
  unfold mm_sz
  have e : (h.set r y).map mm_csz = h.map mm_csz := by
    refine List.ext_getElem? fun i => ?_
    rw [List.getElem?_map, List.getElem?_map, List.getElem?_set]
    by_cases hi : r = i
    · subst hi
      rw [if_pos rfl, if_pos (List.getElem?_eq_some_iff.mp hr).1, hr]
      simp [hc]
    · rw [if_neg hi]
  rw [e]
theorem mm_spush {h : mm_H} {x : mm_C} : mm_sz (h ++ [x]) = mm_sz h + mm_csz x := by
  simp [mm_sz]
theorem mm_srows {h : mm_H} {n k g : Nat} : mm_sz (h ++ mm_rows n k g) = mm_sz h + n + n * k := by
  simp [mm_sz, mm_rows, mm_csz]
  omega
theorem mm_updl {xs : List Int32} {i : Nat} {x : Int32} (hi : i < xs.length) : (fun j => (xs.set i x).getD j 0) = upd (fun j => xs.getD j 0) i x := by
  funext j
  simp only [List.getD_eq_getElem?_getD, List.getElem?_set, upd]
  by_cases hj : j = i
  · subst hj
    simp [hi]
  · have hj2 : ¬ i = j := fun z => hj z.symm
    simp [hj, hj2]
theorem mm_updr {xs : List (Option Nat)} {i v : Nat} {ad : Nat → Nat} (hi : i < xs.length) : (fun j => ((xs.set i (some v)).getD j none).map ad) = va_up (fun j => (xs.getD j none).map ad) i (some (ad v)) := by
  funext j
  simp only [List.getD_eq_getElem?_getD, List.getElem?_set, va_up]
  by_cases hj : j = i
  · subst hj
    simp [hi]
  · have hj2 : ¬ i = j := fun z => hj z.symm
    simp [hj, hj2]
theorem mm_rep0 {n : Nat} : (fun j => (List.replicate n (0 : Int32)).getD j 0) = fun _ => 0 := by
  funext j
  simp only [List.getD_eq_getElem?_getD, List.getElem?_replicate]
  split <;> rfl
theorem mm_repn {n : Nat} {ad : Nat → Nat} : (fun j => ((List.replicate n (none : Option Nat)).getD j none).map ad) = fun _ => none := by
  funext j
  simp only [List.getD_eq_getElem?_getD, List.getElem?_replicate]
  split <;> rfl
theorem mm_rrows {ca : Nat → ClassId} {ad : Nat → Nat} {base : Nat} {h : mm_H} {n k : Nat} (had : ∀ k, ad (k + 3) = base + k) : mm_rd ca ad base (h ++ mm_rows n k (h.length + 3)) = (mm_rd ca ad base h ++ [(base + h.length, .inl (ca 3, n, .inr (.inr (.inr (.inr (fun i => if i < n then some (base + h.length + 1 + i) else none))))))]) ++ (List.range n).map (fun i => (base + h.length + 1 + i, .inl (ca 0, k, .inl (fun _ => 0)))) := by
  have e1 : mm_rc ca ad (.inr (.inr (false, (List.range n).map (fun i => some (h.length + 3 + 1 + i))))) = .inl (ca 3, n, .inr (.inr (.inr (.inr (fun i => if i < n then some (base + h.length + 1 + i) else none))))) := by
    show Sum.inl (ca 3, ((List.range n).map (fun i => some (h.length + 3 + 1 + i))).length, Sum.inr (Sum.inr (Sum.inr (Sum.inr (fun j => (((List.range n).map (fun i => some (h.length + 3 + 1 + i))).getD j none).map ad))))) = _
    have e : (fun j => (((List.range n).map (fun i => some (h.length + 3 + 1 + i))).getD j none).map ad) = fun i => if i < n then some (base + h.length + 1 + i) else none := by
      funext j
      simp only [List.getD_eq_getElem?_getD, List.getElem?_map]
      by_cases hj : j < n
      · rw [List.getElem?_range hj, if_pos hj]
        show some (ad (h.length + 3 + 1 + j)) = _
        rw [show h.length + 3 + 1 + j = (h.length + 1 + j) + 3 by omega, had]
        congr 1
        omega
      · rw [if_neg hj, List.getElem?_eq_none (by rw [List.length_range]; omega)]
        rfl
    rw [e]
    simp
  have e2 : mm_rc ca ad (.inr (.inl (false, List.replicate k 0))) = .inl (ca 0, k, .inl (fun _ => 0)) := by
    show Sum.inl (ca 0, (List.replicate k (0 : Int32)).length, Sum.inl (fun j => (List.replicate k (0 : Int32)).getD j 0)) = _
    rw [List.length_replicate, mm_rep0]
  rw [mm_rows, ← List.singleton_append, ← List.append_assoc]
  unfold mm_rd
  rw [List.mapIdx_append, List.mapIdx_append]
  congr 1
  · congr 1
    show [(base + (0 + h.length), mm_rc ca ad _)] = _
    rw [e1]
    simp
  · refine List.ext_getElem? fun i => ?_
    rw [List.getElem?_mapIdx, List.getElem?_map, List.getElem?_replicate]
    by_cases hi : i < n
    · rw [if_pos hi, List.getElem?_range hi]
      show some (base + (i + _), mm_rc ca ad _) = some _
      rw [e2]
      simp
      omega
    · rw [if_neg hi, List.getElem?_eq_none (by rw [List.length_range]; omega)]
      rfl
theorem mm_csum {ad : Nat → Nat} {st : List mm_V} (h : st.length ≤ 8) : (((st.map (mm_rv ad)).map fun v => v.category).sum) ≤ 8 := by
  have e : ((st.map (mm_rv ad)).map fun v => v.category).sum = st.length := by
    clear h
    induction st with
    | nil => rfl
    | cons v t ih =>
      simp only [List.map_cons, List.sum_cons, List.length_cons, ih, mm_cat]
      omega
  omega
/-- what is known of a method by its number -/
theorem mm_mf {y : Nat} {M : mm_M} (h : mm_mt[y]? = some M) : (mm_mk M).all (mm_chk (mm_mn M) (mm_mb M)) = true ∧ (mm_mk M).all mm_kchk = true ∧ mm_ml M ≤ 40 ∧ .initialized (mm_mn M).cls ∈ mm_GW ∧ .code (mm_mn M) (mm_mb M) (mm_ml M) (mm_mr M) ∈ mm_GW ∧ plainName (mm_mn M).cls = true ∧ (mm_mn M).cls ≠ "java/lang/invoke/MethodHandle" ∧ (mm_mn M).cls ≠ "java/lang/invoke/VarHandle" ∧ (mm_mq M = 0 → .instanceMethod (mm_mn M) ∈ mm_GW ∧ .selects (mm_mn M).cls (mm_mn M) (mm_mn M) ∈ mm_GW) ∧ (mm_mq M = 1 → .static (mm_mn M) ∈ mm_GW) ∧ (mm_mq M = 2 → .instanceMethod (mm_mn M) ∈ mm_GW) := by
  have h0 := List.mem_of_getElem? h
  have h1 := mm_all M h0
  have h2 := List.all_eq_true.mp mm_kall M h0
  unfold mm_mchk at h1
  simp only [Bool.and_eq_true, decide_eq_true_eq] at h1
  obtain ⟨⟨⟨⟨⟨⟨⟨a1, a2⟩, a3⟩, a4⟩, a5⟩, a6⟩, a7⟩, a8⟩ := h1
  refine ⟨a1, h2, a2, mm_gw a3 rfl, mm_gw a4 rfl, a5, a6, a7, fun hq => ?_, fun hq => ?_, fun hq => ?_⟩
  · rw [hq] at a8
    simp only [Bool.and_eq_true, decide_eq_true_eq] at a8
    exact ⟨mm_gw a8.1 rfl, mm_gw a8.2 rfl⟩
  · rw [hq] at a8
    simp only [decide_eq_true_eq] at a8
    exact mm_gw a8 rfl
  · rw [hq] at a8
    simp only [decide_eq_true_eq] at a8
    exact mm_gw a8 rfl
theorem mm_wsin {y : Nat} {M : mm_M} (h : mm_mt[y]? = some M) : GoodIn mm_GW (mm_ws M) := mm_gin fun w hw => by
  rcases List.mem_cons.mp hw with rfl | hw
  · exact (mm_mf h).2.2.2.2.1
  · exact hw
def mm_I (base : Nat) (ad : Nat → Nat) (D : va_G) (ca : Nat → ClassId) (s : State) (h0l h0s : Nat) (h : mm_H) (H : Heap) (locs : List Loc) (cells slots : Nat) : Prop :=
  va_P D mm_cl (mm_rd ca ad base h) H ∧ H.size = base + h.length ∧ va_S (fun q => base ≤ q) s.heap H locs ∧ cells + h0l = h.length ∧ slots + h0s = mm_sz h
def mm_Fx (ro : Nat → List Int32) (base : Nat) (ad : Nat → Nat) (D : va_G) (ca : Nat → ClassId) (p : Program) (R : Room) (s : State) (m : MethodId) (args : Array Value) (meth : Method) (c : Code) (M : mm_M) (d : Nat) : Prop :=
  p.tables.exec = Jvm.exec ∧ c.code = mm_mb M ∧ c.maxLocals = mm_ml M ∧ s.vm.findClass (mm_mn M).cls = some m.cls ∧ (∀ w ∈ mm_GW, w.before args s = true) ∧ ((mm_mn M).name = "<init>" → meth.name = "<init>") ∧ (mm_mk M).all (mm_chk (mm_mn M) (mm_mb M)) = true ∧ (mm_mk M).all mm_kchk = true ∧ mm_Env ro base ad D ca s ∧ base ≤ s.heap.size ∧ d + 1 ≤ R.frames ∧ 64 * (d + 1) ≤ R.locals
variable {l : Launch} {ro : Nat → List Int32} {base : Nat} {ad : Nat → Nat} {D : va_G} {ca : Nat → ClassId}
variable {p : Program} {e : Env} {R : Room} {s : State} {m : MethodId} {args : Array Value} {below : List Frame} {meth : Method} {c : Code} {Q : State → Prop}
/-- what a callee may take as given -/
theorem mm_pre {as : List mm_V} {h : mm_H} {H : Heap} {locs : List Loc} {h0l h0s cells slots : Nat} (hE : mm_Env ro base ad D ca s) (hbs : base ≤ s.heap.size) (hI : mm_I base ad D ca s h0l h0s h H locs cells slots) : ∀ U : State, U.heap = H → s.WarmedH U.vm → mm_Pc ro base ad D ca as h (as.map (mm_rv ad)).toArray U := fun U hU hW =>
  ⟨rfl, by rw [hU]; exact hI.2.1, by rw [hU]; exact hI.1, hE.go hW fun q hq => by rw [hU]; exact hI.2.2.1.2.1 q (by omega) (by show ¬ base ≤ q; omega)⟩
/-- behind a call -/
theorem mm_post {r : Option Int32} {h h' : mm_H} {H : Heap} {locs : List Loc} {h0l h0s cells slots pc : Nat} {lr : Array Slot} {st0 rest : List Value} {a : Array Value} (hI : mm_I base ad D ca s h0l h0s h H locs cells slots) (g1 : h.length ≤ h'.length) (g2 : mm_sz h ≤ mm_sz h')
    (hr : va_Run p l e R s m args below meth c H locs cells slots (h'.length - h.length) (mm_sz h' - mm_sz h) (F0 m pc lr st0) rest (mm_Qc base ad D ca r h' a) (fun q => base ≤ q))
    (kk : ∀ (H1 : Heap) (locs1 : List Loc) (cells1 slots1 : Nat), mm_I base ad D ca s h0l h0s h' H1 locs1 cells1 slots1 → W p l e R s m args below meth c H1 locs1 cells1 slots1 Q (F0 m (pc + 3) lr ((r.map Value.int).toList ++ rest))) : W p l e R s m args below meth c H locs cells slots Q (F0 m pc lr st0) := by
  obtain ⟨i1, i2, i3, i4, i5⟩ := hI
  cases r with
  | none =>
    refine va_callv (a := a) (S := Unit) (post := fun _ => True) (B := fun _ t => t.heap.size = base + h'.length ∧ va_P D mm_cl (mm_rd ca ad base h') t.heap) (A1 := fun q => base ≤ q) hr i3 (fun q _ h => h) (fun q h => h) (fun u t H1 locs1 ht hal hp hB hz hk hS => ?_)
    rw [ht] at hB
    exact kk H1 locs1 _ _ ⟨hB.2, hB.1, hS, by omega, by omega⟩
  | some x =>
    refine va_calli (a := a) (S := Unit) (post := fun y _ => y = x) (B := fun _ t => t.heap.size = base + h'.length ∧ va_P D mm_cl (mm_rd ca ad base h') t.heap) (A1 := fun q => base ≤ q) hr i3 (fun q _ h => h) (fun q h => h) (fun r u t H1 locs1 ht hal hp hB hz hk hS => ?_)
    rw [ht] at hB
    subst hp
    exact kk H1 locs1 _ _ ⟨hB.2, hB.1, hS, by omega, by omega⟩
set_option maxHeartbeats 4000000 in
set_option maxRecDepth 20000 in
theorem mm_sim (had : ∀ k, ad (k + 3) = base + k) (M : mm_M) (d : Nat) (Ca : mm_R) (hCa : ∀ y as h r h', Ca y as h r h' → ∃ M', mm_mt[y]? = some M' ∧ mm_Mt l ro base ad D ca M' d as h r h') (Fx : mm_Fx ro base ad D ca p R s m args meth c M d) (hl hs h0l h0s : Nat) (hRc : hl ≤ R.cells + h0l) (hRs : hs ≤ R.slots + h0s) (K : Option Int32 → mm_H → Prop)
    (kI : ∀ (pc : Nat) (lr : Array Slot) (v : Int32) (h : mm_H) (H : Heap) (locs : List Loc) (cells slots : Nat), decode (mm_mb M) pc = .ok (.ireturn, 1) → (mm_mr M = some .int ∨ (mm_mr M = some .boolean ∧ (v = 0 ∨ v = 1))) → K (some v) h → mm_I base ad D ca s h0l h0s h H locs cells slots → W p l e R s m args below meth c H locs cells slots Q (F0 m pc lr [.int v]))
    (kV : ∀ (pc : Nat) (lr : Array Slot) (h : mm_H) (H : Heap) (locs : List Loc) (cells slots : Nat), decode (mm_mb M) pc = .ok (.return_, 1) → mm_mr M = none → K none h → mm_I base ad D ca s h0l h0s h H locs cells slots → W p l e R s m args below meth c H locs cells slots Q (F0 m pc lr [])) :
    ∀ (n pc : Nat) (ls : mm_L) (st : List mm_V) (h : mm_H) (H : Heap) (locs : List Loc) (cells slots : Nat) (lr : Array Slot), mm_wp ro Ca (mm_mr M) (mm_mk M) hl hs K n pc ls st h → mm_LH ad (mm_ml M) ls lr → mm_I base ad D ca s h0l h0s h H locs cells slots → W p l e R s m args below meth c H locs cells slots Q (F0 m pc lr (st.map (mm_rv ad))) := by
  obtain ⟨hx, hb, hml, hown, hts, hname, hchk, hkk, hE, hbs, hRf, hRl⟩ := Fx
  intro n
  induction n with
  | zero => intro pc ls st h H locs cells slots lr hw; exact False.elim hw
  | succ n ih =>
  intro pc ls st h H locs cells slots lr hw hLS hI
  obtain ⟨i, len, a, b, cx, w, hat, hw⟩ := hw
  have hmem : (pc, i, len, a, b, cx, w) ∈ mm_mk M := List.mem_of_find?_eq_some hat
  have he := List.all_eq_true.mp hchk _ hmem
  have hkd := List.all_eq_true.mp hkk _ hmem
  unfold mm_chk at he
  rw [Bool.and_eq_true] at he
  obtain ⟨hd0, he⟩ := he
  have hd : decode (mm_mb M) pc = .ok (i, len) := of_decide_eq_true hd0
  clear hd0 hat hmem
  cases i with
  | iconst v =>
    have hlen : len = 1 := of_decide_eq_true he
    subst hlen
    exact lv_iconst hx hb hd rfl (ih _ _ _ _ _ _ _ _ _ hw hLS hI)
  | bipush v =>
    have hlen : len = 2 := of_decide_eq_true he
    subst hlen
    exact lv_bipush hx hb hd rfl (ih _ _ _ _ _ _ _ _ _ hw hLS hI)
  | sipush v =>
    have hlen : len = 3 := of_decide_eq_true he
    subst hlen
    exact lv_sipush hx hb hd rfl (ih _ _ _ _ _ _ _ _ _ hw hLS hI)
  | ldc k =>
    rw [Bool.and_eq_true] at he
    have hlen : len = 2 := of_decide_eq_true he.1
    subst hlen
    exact lv_ldc hx hb hown (hts _ (mm_gw (of_decide_eq_true he.2) rfl)) hd (ih _ _ _ _ _ _ _ _ _ hw hLS hI)
  | iload_n k =>
    have hlen : len = 1 := of_decide_eq_true he
    subst hlen
    obtain ⟨x, hk, hg⟩ := hw
    exact lv_iload_n hx hb hd rfl (hLS.2.2.2 _ _ hk) (ih _ _ _ _ _ _ _ _ _ hg hLS hI)
  | iload k =>
    have hlen : len = 2 := of_decide_eq_true he
    subst hlen
    obtain ⟨x, hk, hg⟩ := hw
    exact lv_iload hx hb hd (hLS.2.2.2 _ _ hk) (ih _ _ _ _ _ _ _ _ _ hg hLS hI)
  | aload_n k =>
    have hlen : len = 1 := of_decide_eq_true he
    subst hlen
    obtain ⟨x, hk, hg⟩ := hw
    exact lv_aload_n hx hb hd rfl (hLS.2.2.2 _ _ hk) (ih _ _ _ _ _ _ _ _ _ hg hLS hI)
  | istore_n k =>
    have hlen : len = 1 := of_decide_eq_true he
    subst hlen
    obtain ⟨x, s', rfl, hk, hg⟩ := hw
    exact lv_istore_n hx hb hd rfl hLS.has (hLS.2.2.1 ▸ hk) rfl (fun ls' h' => ih _ _ _ _ _ _ _ _ _ hg (hLS.put (v := .inl x) h') hI)
  | istore k =>
    have hlen : len = 2 := of_decide_eq_true he
    subst hlen
    obtain ⟨x, s', rfl, hk, hg⟩ := hw
    exact lv_istore hx hb hd hLS.has (hLS.2.2.1 ▸ hk) rfl (fun ls' h' => ih _ _ _ _ _ _ _ _ _ hg (hLS.put (v := .inl x) h') hI)
  | astore_n k =>
    have hlen : len = 1 := of_decide_eq_true he
    subst hlen
    obtain ⟨x, s', rfl, hk, hg⟩ := hw
    exact lv_astore_n hx hb hd rfl hLS.has (hLS.2.2.1 ▸ hk) rfl (fun ls' h' => ih _ _ _ _ _ _ _ _ _ hg (hLS.put (v := .inr (some x)) h') hI)
  | iinc k v =>
    have hlen : len = 3 := of_decide_eq_true he
    subst hlen
    obtain ⟨x, hk, hg⟩ := hw
    obtain ⟨j, hj⟩ := List.getElem?_of_mem (mm_al_mem (ad := ad) hk)
    exact lv_iinc hx hb hd hLS.has hj rfl (hLS.2.2.1 ▸ (List.getElem?_eq_some_iff.mp hk).1) rfl (fun ls' h' => ih _ _ _ _ _ _ _ _ _ hg (hLS.put (v := .inl (x + Int32.ofInt v)) h') hI)
  | iadd =>
    have hlen : len = 1 := of_decide_eq_true he
    subst hlen
    obtain ⟨x, y, s', rfl, hg⟩ := hw
    exact lv_iadd hx hb hd (ih _ _ _ _ _ _ _ _ _ hg hLS hI)
  | isub =>
    have hlen : len = 1 := of_decide_eq_true he
    subst hlen
    obtain ⟨x, y, s', rfl, hg⟩ := hw
    exact lv_isub hx hb hd (ih _ _ _ _ _ _ _ _ _ hg hLS hI)
  | imul =>
    have hlen : len = 1 := of_decide_eq_true he
    subst hlen
    obtain ⟨x, y, s', rfl, hg⟩ := hw
    exact lv_imul hx hb hd (ih _ _ _ _ _ _ _ _ _ hg hLS hI)
  | iand =>
    have hlen : len = 1 := of_decide_eq_true he
    subst hlen
    obtain ⟨x, y, s', rfl, hg⟩ := hw
    exact lv_iand hx hb hd (ih _ _ _ _ _ _ _ _ _ hg hLS hI)
  | ior =>
    have hlen : len = 1 := of_decide_eq_true he
    subst hlen
    obtain ⟨x, y, s', rfl, hg⟩ := hw
    exact lv_ior hx hb hd (ih _ _ _ _ _ _ _ _ _ hg hLS hI)
  | ixor =>
    have hlen : len = 1 := of_decide_eq_true he
    subst hlen
    obtain ⟨x, y, s', rfl, hg⟩ := hw
    exact lv_ixor hx hb hd (ih _ _ _ _ _ _ _ _ _ hg hLS hI)
  | ishl =>
    have hlen : len = 1 := of_decide_eq_true he
    subst hlen
    obtain ⟨x, y, s', rfl, hg⟩ := hw
    exact lv_ishl hx hb hd (ih _ _ _ _ _ _ _ _ _ hg hLS hI)
  | ishr =>
    have hlen : len = 1 := of_decide_eq_true he
    subst hlen
    obtain ⟨x, y, s', rfl, hg⟩ := hw
    exact lv_ishr hx hb hd (ih _ _ _ _ _ _ _ _ _ hg hLS hI)
  | idiv =>
    have hlen : len = 1 := of_decide_eq_true he
    subst hlen
    obtain ⟨x, y, s', rfl, hy, hg⟩ := hw
    exact lv_idiv hx hb hd hy (ih _ _ _ _ _ _ _ _ _ hg hLS hI)
  | irem =>
    have hlen : len = 1 := of_decide_eq_true he
    subst hlen
    obtain ⟨x, y, s', rfl, hy, hg⟩ := hw
    exact lv_irem hx hb hd hy (ih _ _ _ _ _ _ _ _ _ hg hLS hI)
  | ineg =>
    have hlen : len = 1 := of_decide_eq_true he
    subst hlen
    obtain ⟨x, s', rfl, hg⟩ := hw
    exact lv_ineg hx hb hd (ih _ _ _ _ _ _ _ _ _ hg hLS hI)
  | dup =>
    have hlen : len = 1 := of_decide_eq_true he
    subst hlen
    obtain ⟨v, s', rfl, hg⟩ := hw
    exact lv_dup hx hb hd (mm_cat ad v) (ih _ _ _ _ _ _ _ _ _ hg hLS hI)
  | pop =>
    have hlen : len = 1 := of_decide_eq_true he
    subst hlen
    obtain ⟨v, s', rfl, hg⟩ := hw
    exact lv_pop hx hb hd (mm_cat ad v) (ih _ _ _ _ _ _ _ _ _ hg hLS hI)
  | dup2 =>
    have hlen : len = 1 := of_decide_eq_true he
    subst hlen
    obtain ⟨v, w2, s', rfl, hg⟩ := hw
    exact lv_dup2_11 hx hb hd (mm_cat ad v) (mm_cat ad w2) (ih _ _ _ _ _ _ _ _ _ hg hLS hI)
  | ifCond q off =>
    rw [Bool.and_eq_true] at he
    have hlen : len = 3 := of_decide_eq_true he.2
    have ht := of_decide_eq_true he.1
    subst hlen
    obtain ⟨x, s', rfl, hg1, hg2⟩ := hw
    cases q with
    | eq => exact lv_if_eq hx hb hd ht (fun hq => ih _ _ _ _ _ _ _ _ _ (hg1 hq) hLS hI) (fun hq => ih _ _ _ _ _ _ _ _ _ (hg2 hq) hLS hI)
    | ne => exact lv_if_ne hx hb hd ht (fun hq => ih _ _ _ _ _ _ _ _ _ (hg1 hq) hLS hI) (fun hq => ih _ _ _ _ _ _ _ _ _ (hg2 (fun z => z hq)) hLS hI)
    | lt => exact lv_if_lt hx hb hd ht (fun hq => ih _ _ _ _ _ _ _ _ _ (hg1 hq) hLS hI) (fun hq => ih _ _ _ _ _ _ _ _ _ (hg2 hq) hLS hI)
    | ge => exact lv_if_ge hx hb hd ht (fun hq => ih _ _ _ _ _ _ _ _ _ (hg1 hq) hLS hI) (fun hq => ih _ _ _ _ _ _ _ _ _ (hg2 hq) hLS hI)
    | gt => exact lv_if_gt hx hb hd ht (fun hq => ih _ _ _ _ _ _ _ _ _ (hg1 hq) hLS hI) (fun hq => ih _ _ _ _ _ _ _ _ _ (hg2 hq) hLS hI)
    | le => exact lv_if_le hx hb hd ht (fun hq => ih _ _ _ _ _ _ _ _ _ (hg1 hq) hLS hI) (fun hq => ih _ _ _ _ _ _ _ _ _ (hg2 hq) hLS hI)
  | if_icmp q off =>
    rw [Bool.and_eq_true] at he
    have hlen : len = 3 := of_decide_eq_true he.2
    have ht := of_decide_eq_true he.1
    subst hlen
    obtain ⟨x, y, s', rfl, hg1, hg2⟩ := hw
    cases q with
    | eq => exact lv_icmp_eq hx hb hd ht (fun hq => ih _ _ _ _ _ _ _ _ _ (hg1 hq) hLS hI) (fun hq => ih _ _ _ _ _ _ _ _ _ (hg2 hq) hLS hI)
    | ne => exact lv_icmp_ne hx hb hd ht (fun hq => ih _ _ _ _ _ _ _ _ _ (hg1 hq) hLS hI) (fun hq => ih _ _ _ _ _ _ _ _ _ (hg2 (fun z => z hq)) hLS hI)
    | lt => exact lv_icmp_lt hx hb hd ht (fun hq => ih _ _ _ _ _ _ _ _ _ (hg1 hq) hLS hI) (fun hq => ih _ _ _ _ _ _ _ _ _ (hg2 hq) hLS hI)
    | ge => exact lv_icmp_ge hx hb hd ht (fun hq => ih _ _ _ _ _ _ _ _ _ (hg1 hq) hLS hI) (fun hq => ih _ _ _ _ _ _ _ _ _ (hg2 hq) hLS hI)
    | gt => exact lv_icmp_gt hx hb hd ht (fun hq => ih _ _ _ _ _ _ _ _ _ (hg1 hq) hLS hI) (fun hq => ih _ _ _ _ _ _ _ _ _ (hg2 hq) hLS hI)
    | le => exact lv_icmp_le hx hb hd ht (fun hq => ih _ _ _ _ _ _ _ _ _ (hg1 hq) hLS hI) (fun hq => ih _ _ _ _ _ _ _ _ _ (hg2 hq) hLS hI)
  | goto off =>
    rw [Bool.and_eq_true] at he
    have hlen : len = 3 := of_decide_eq_true he.2
    have ht := of_decide_eq_true he.1
    subst hlen
    exact lv_goto hx hb hd ht (ih _ _ _ _ _ _ _ _ _ hw hLS hI)
  | tableswitch dd lo hi offs =>
    obtain ⟨x, s', rfl, hg1, hg2⟩ := hw
    by_cases hr : x.toInt < lo ∨ hi < x.toInt
    · obtain ⟨t, ht, hg⟩ := hg1 hr
      exact lv_tableOut hx hb hd hr ht (ih _ _ _ _ _ _ _ _ _ hg hLS hI)
    · obtain ⟨o, t, ho, ht, hg⟩ := hg2 hr
      exact lv_tableIn hx hb hd (fun z => hr (Or.inl z)) (fun z => hr (Or.inr z)) ho ht (ih _ _ _ _ _ _ _ _ _ hg hLS hI)
  | getfield k =>
    rw [Bool.and_eq_true] at he
    have hlen : len = 3 := of_decide_eq_true he.2
    subst hlen
    obtain ⟨C, T, N, hca, hbN, hlk⟩ := mm_fok he.1
    obtain ⟨r, fs, v, s', rfl, hr, hv, hg⟩ := hw
    obtain ⟨k1, -, -⟩ := mm_ck a _ hca
    exact va_get (D := D) (cl := mm_cl) (tys := mm_tys ca) (ref := (T b).1) (Ts := mm_GW) hx hb hts k1 hown hE.1 hI.1 r (mm_look had hr) hca b hbN (hts _ (mm_gw hlk rfl)) (fun _ h9 => h9) (v := mm_rv ad v) (by rw [List.getElem?_map, hv]; rfl) hd (ih _ _ _ _ _ _ _ _ _ hg hLS hI)
  | putfield k =>
    rw [Bool.and_eq_true, Bool.and_eq_true] at he
    have hlen : len = 3 := of_decide_eq_true he.2
    subst hlen
    obtain ⟨C, T, N, hca, hbN, hlk⟩ := mm_fok he.1.1
    obtain ⟨r, fs, v, s', rfl, hr, hbl, hfit, hg⟩ := hw
    obtain ⟨k1, ⟨ty0, k2, -⟩, k3, -⟩ := mm_ck a _ hca
    have hbl' : b < (fs.map (mm_rv ad)).length := by rw [List.length_map]; exact hbl
    have hset : (mm_rd ca ad base h).set r (ad (r + 3), .inr (a, (fs.map (mm_rv ad)).set b (mm_rv ad v))) = mm_rd ca ad base (h.set r (.inl (a, fs.set b v))) := by
      rw [← mm_rset had]
      show _ = List.set _ _ (_, Sum.inr (a, (fs.set b v).map (mm_rv ad)))
      rw [List.map_set]
    have hsz : mm_sz (h.set r (.inl (a, fs.set b v))) = mm_sz h := mm_sset hr (by simp [mm_csz])
    have hpc := he.1.2
    have hgo : ∀ (H1 : Heap) (locs1 : List Loc), H1.size = H.size → va_P D mm_cl ((mm_rd ca ad base h).set r (ad (r + 3), .inr (a, (fs.map (mm_rv ad)).set b (mm_rv ad v)))) H1 → va_S (fun q => base ≤ q) s.heap H1 locs1 → W p l e R s m args below meth c H1 locs1 cells slots Q (F0 m (pc + 3) lr (s'.map (mm_rv ad))) := fun H1 locs1 z hP1 hS1 => ih _ _ _ _ _ _ _ _ _ hg hLS ⟨by rw [← hset]; exact hP1, by rw [z, hI.2.1, List.length_set], hS1, by rw [List.length_set]; exact hI.2.2.2.1, by rw [hsz]; exact hI.2.2.2.2⟩
    match cx, hfit, hpc with
    | 0, hfit, hpc =>
      obtain ⟨x, rfl⟩ := hfit
      simp only [mm_pchk, hca, Bool.and_eq_true, decide_eq_true_eq, Bool.not_eq_true'] at hpc
      exact mm_vput (D := D) (cl := mm_cl) (tys := mm_tys ca) (ref := (T b).1) (Ts := mm_GW) (ty := .int) (v := .int x) hx hb hts k1 ty0 k2 k3 hown hE.1 hI.1 mm_rD hI.2.2.1 r (mm_look had hr) hca b hbN (hts _ (mm_gw hlk rfl)) (fun _ h9 => h9) hpc.2 (by rw [hpc.1]; decide +kernel) rfl rfl hbl' hd hgo
    | 1, hfit, hpc =>
      simp only [mm_pchk, hca, Bool.and_eq_true, decide_eq_true_eq, Bool.not_eq_true'] at hpc
      rcases hfit with rfl | rfl
      · exact mm_vput (D := D) (cl := mm_cl) (tys := mm_tys ca) (ref := (T b).1) (Ts := mm_GW) (ty := .boolean) (v := .int 0) hx hb hts k1 ty0 k2 k3 hown hE.1 hI.1 mm_rD hI.2.2.1 r (mm_look had hr) hca b hbN (hts _ (mm_gw hlk rfl)) (fun _ h9 => h9) hpc.2 (by rw [hpc.1]; decide +kernel) rfl (by decide +kernel) hbl' hd hgo
      · exact mm_vput (D := D) (cl := mm_cl) (tys := mm_tys ca) (ref := (T b).1) (Ts := mm_GW) (ty := .boolean) (v := .int 1) hx hb hts k1 ty0 k2 k3 hown hE.1 hI.1 mm_rD hI.2.2.1 r (mm_look had hr) hca b hbN (hts _ (mm_gw hlk rfl)) (fun _ h9 => h9) hpc.2 (by rw [hpc.1]; decide +kernel) (by decide +kernel) (by decide +kernel) hbl' hd hgo
    | n9 + 2, hfit, hpc =>
      obtain ⟨q9, rfl⟩ := hfit
      simp only [mm_pchk, hca, Bool.and_eq_true, decide_eq_true_eq] at hpc
      obtain ⟨⟨⟨⟨-, f1⟩, f2⟩, f3⟩, f4⟩ := hpc
      obtain ⟨t9, ht9, hr9⟩ := mm_rty f4
      obtain ⟨g1, g2⟩ := mm_rfit hr9 (ad q9)
      exact mm_vputF (D := D) (cl := mm_cl) (tys := mm_tys ca) (ref := (T b).1) (Ts := mm_GW) (ty := t9) (v := .ref (ad q9)) hx hb hts k1 ty0 k2 k3 hown hE.1 hI.1 mm_rD hI.2.2.1 r (mm_look had hr) hca b hbN (hts _ (mm_gw hlk rfl)) (fun _ h9 => h9) f1 (hname f3) f2 ht9 g1 g2 hbl' hd hgo
  | getstatic k =>
    rw [Bool.and_eq_true, Bool.and_eq_true] at he
    have hlen : len = 3 := of_decide_eq_true he.1.1
    have hcs : (mm_mn M).cls = "LineMap$Search" := of_decide_eq_true he.1.2
    subst hlen
    obtain ⟨-, hg⟩ := hw
    have h3 := he.2
    rw [Bool.or_eq_true, Bool.and_eq_true, Bool.and_eq_true] at h3
    rw [hcs] at hown
    rcases h3 with ⟨h31, h32⟩ | ⟨h31, h32⟩
    · have e1 : a = 1 := of_decide_eq_true h31
      have e2 : k = 123 := of_decide_eq_true h32
      subst e1; subst e2
      exact va_getsN (host := "LineMap") hx hb hE.2.2.2.2.2.2.2.2.1 hI.2.2.1 hown (va_Nw.use rfl hE.2.2.2.1) (fun _ h9 => h9) hd (ih _ _ _ _ _ _ _ _ _ hg hLS hI)
    · have e1 : a = 2 := of_decide_eq_true h31
      have e2 : k = 126 := of_decide_eq_true h32
      subst e1; subst e2
      exact va_getsN (host := "LineMap") hx hb hE.2.2.2.2.2.2.2.2.2 hI.2.2.1 hown (va_Nw.use rfl hE.2.2.2.2.1) (fun _ h9 => h9) hd (ih _ _ _ _ _ _ _ _ _ hg hLS hI)
  | iaload =>
    have hlen : len = 1 := of_decide_eq_true he
    subst hlen
    obtain ⟨i, r, s', rfl, ⟨hr3, hin, hg⟩ | ⟨q, xs, rfl, hq, hin, hg⟩⟩ := hw
    · exact va_ti hx hb (hE.2.2.2.2.2.2.2.1 r hr3) hI.2.2.1 hin rfl hd (ih _ _ _ _ _ _ _ _ _ hg hLS hI)
    · exact va_iald (D := D) (cl := mm_cl) (tys := mm_tys ca) hx hb hE.1 hI.1 q 0 (mm_look had hq) rfl hin hd (ih _ _ _ _ _ _ _ _ _ hg hLS hI)
  | arraylength =>
    have hlen : len = 1 := of_decide_eq_true he
    subst hlen
    obtain ⟨r, s', rfl, ⟨hr3, hg⟩ | ⟨q, xs, rfl, hq, hg⟩⟩ := hw
    · exact va_tlen hx hb (hE.2.2.2.2.2.2.2.1 r hr3) hI.2.2.1 rfl hd (ih _ _ _ _ _ _ _ _ _ hg hLS hI)
    · exact va_alen (D := D) (cl := mm_cl) (tys := mm_tys ca) hx hb hE.1 hI.1 q 0 (mm_look had hq) rfl rfl hd (ih _ _ _ _ _ _ _ _ _ hg hLS hI)
  | baload =>
    have hlen : len = 1 := of_decide_eq_true he
    subst hlen
    obtain ⟨i, r, s', xs, rfl, hq, hin, hg⟩ := hw
    exact va_zald (D := D) (cl := mm_cl) (tys := mm_tys ca) hx hb hE.1 hI.1 r 1 (mm_look had hq) rfl hin hd (ih _ _ _ _ _ _ _ _ _ hg hLS hI)
  | aaload =>
    have hlen : len = 1 := of_decide_eq_true he
    subst hlen
    obtain ⟨i, r, s', z, xs, rfl, hq, hin, hg⟩ := hw
    cases z with
    | false => exact mm_aald (D := D) (cl := mm_cl) (tys := mm_tys ca) hx hb hE.1 hI.1 r 3 (mm_look had hq) rfl rfl hin hd (ih _ _ _ _ _ _ _ _ _ hg hLS hI)
    | true => exact mm_aald (D := D) (cl := mm_cl) (tys := mm_tys ca) hx hb hE.1 hI.1 r 2 (mm_look had hq) rfl rfl hin hd (ih _ _ _ _ _ _ _ _ _ hg hLS hI)
  | iastore =>
    have hlen : len = 1 := of_decide_eq_true he
    subst hlen
    obtain ⟨x, i, r, s', xs, rfl, hq, hin, hg⟩ := hw
    have hlt : i.toNatClampNeg < xs.length := Nat.not_le.mp fun z => hin (Or.inr z)
    refine mm_viast (D := D) (cl := mm_cl) (tys := mm_tys ca) hx hb hE.1 hI.1 mm_rD hI.2.2.1 r 0 (mm_look had hq) rfl hin hd fun H1 locs1 z hP1 hS1 => ?_
    have hset : (mm_rd ca ad base h).set r (ad (r + 3), .inl (ca 0, xs.length, .inl (upd (fun j => xs.getD j 0) i.toNatClampNeg x))) = mm_rd ca ad base (h.set r (.inr (.inl (false, xs.set i.toNatClampNeg x)))) := by
      rw [← mm_rset had]
      show _ = List.set _ _ (_, Sum.inl (ca 0, (xs.set i.toNatClampNeg x).length, Sum.inl (fun j => (xs.set i.toNatClampNeg x).getD j 0)))
      rw [List.length_set, mm_updl hlt]
    exact ih _ _ _ _ _ _ _ _ _ hg hLS ⟨by rw [← hset]; exact hP1, by rw [z, hI.2.1, List.length_set], hS1, by rw [List.length_set]; exact hI.2.2.2.1, by rw [mm_sset hq (by simp [mm_csz])]; exact hI.2.2.2.2⟩
  | bastore =>
    have hlen : len = 1 := of_decide_eq_true he
    subst hlen
    obtain ⟨x, i, r, s', xs, rfl, hq, hin, hg⟩ := hw
    have hlt : i.toNatClampNeg < xs.length := Nat.not_le.mp fun z => hin (Or.inr z)
    refine mm_vzast (D := D) (cl := mm_cl) (tys := mm_tys ca) hx hb hE.1 hI.1 mm_rD hI.2.2.1 r 1 (mm_look had hq) rfl hin hd fun H1 locs1 z hP1 hS1 => ?_
    have hset : (mm_rd ca ad base h).set r (ad (r + 3), .inl (ca 1, xs.length, .inl (upd (fun j => xs.getD j 0) i.toNatClampNeg (vp_nar .boolean x)))) = mm_rd ca ad base (h.set r (.inr (.inl (true, xs.set i.toNatClampNeg (vp_nar .boolean x))))) := by
      rw [← mm_rset had]
      show _ = List.set _ _ (_, Sum.inl (ca 1, (xs.set i.toNatClampNeg (vp_nar .boolean x)).length, Sum.inl (fun j => (xs.set i.toNatClampNeg (vp_nar .boolean x)).getD j 0)))
      rw [List.length_set, mm_updl hlt]
    exact ih _ _ _ _ _ _ _ _ _ hg hLS ⟨by rw [← hset]; exact hP1, by rw [z, hI.2.1, List.length_set], hS1, by rw [List.length_set]; exact hI.2.2.2.1, by rw [mm_sset hq (by simp [mm_csz])]; exact hI.2.2.2.2⟩
  | aastore =>
    have hlen : len = 1 := of_decide_eq_true he
    subst hlen
    obtain ⟨v, i, r, s', xs, vs, rfl, hq, hv, hin, hg⟩ := hw
    have hlt : i.toNatClampNeg < xs.length := Nat.not_le.mp fun z => hin (Or.inr z)
    refine mm_vastq (D := D) (cl := mm_cl) (tys := mm_tys ca) hx hb hE.1 hI.1 mm_rD hI.2.2.1 r 2 v 3 (mm_look had hq) rfl (mm_look had hv) rfl hin hd fun H1 locs1 z hP1 hS1 => ?_
    have hset : (mm_rd ca ad base h).set r (ad (r + 3), .inl (ca 2, xs.length, .inr (.inr (.inr (.inr (va_up (fun j => (xs.getD j none).map ad) i.toNatClampNeg (some (ad (v + 3))))))))) = mm_rd ca ad base (h.set r (.inr (.inr (true, xs.set i.toNatClampNeg (some (v + 3)))))) := by
      rw [← mm_rset had]
      show _ = List.set _ _ (_, Sum.inl (ca 2, (xs.set i.toNatClampNeg (some (v + 3))).length, Sum.inr (Sum.inr (Sum.inr (Sum.inr (fun j => ((xs.set i.toNatClampNeg (some (v + 3))).getD j none).map ad))))))
      rw [List.length_set, mm_updr hlt]
    exact ih _ _ _ _ _ _ _ _ _ hg hLS ⟨by rw [← hset]; exact hP1, by rw [z, hI.2.1, List.length_set], hS1, by rw [List.length_set]; exact hI.2.2.2.1, by rw [mm_sset hq (by simp [mm_csz])]; exact hI.2.2.2.2⟩
  | new k =>
    rw [Bool.and_eq_true] at he
    have hlen : len = 3 := of_decide_eq_true he.1
    subst hlen
    obtain ⟨g1, g2, hg⟩ := hw
    have h2 := he.2
    cases hca : mm_cl[a]? with
    | none => simp [hca] at h2
    | some q =>
      obtain ⟨C, T, N⟩ := q
      simp only [hca, Bool.and_eq_true, decide_eq_true_eq] at h2
      obtain ⟨k1, ⟨ty0, k2, k4⟩, k3, k5, k6⟩ := mm_ck a _ hca
      obtain ⟨hc1, hc2⟩ := hI.2.2.2
      have hN : (mm_defs a).length = N := h2.2
      refine mm_vnew (C := C) (T := T) (N := N) (D := D) (cl := mm_cl) (tys := mm_tys ca) (ci := a) (Ts := mm_GW) (fs := (mm_defs a).map (mm_rv ad)) hx hb hts k1 ty0 k2 hown (hts _ (mm_gw h2.1 rfl)) (hts _ k5) (hts _ k6) hE.1 hI.1 hI.2.2.1 hca (k4 ad) (by omega) (by omega) hd fun H1 z hP1 hS1 => ?_
      have e1 : H.size = ad (h.length + 3) := by rw [had, hI.2.1]
      rw [e1]
      refine ih _ _ _ _ _ _ _ _ _ hg hLS ⟨?_, by rw [z, hI.2.1, List.length_append]; rfl, hS1, by rw [List.length_append]; simp; omega, by rw [mm_spush]; simp [mm_csz, hN]; omega⟩
      rw [mm_rpush, ← hI.2.1]
      exact hP1
  | newarray t =>
    have hlen : len = 2 := of_decide_eq_true he
    subst hlen
    obtain ⟨i, s', rfl, ht, hi, hib, g1, g2, hg⟩ := hw
    obtain ⟨hc1, hc2⟩ := hI.2.2.2
    have e1 : H.size = ad (h.length + 3) := by rw [had, hI.2.1]
    rcases ht with rfl | rfl
    · refine mm_vnewa (atype := .int) (D := D) (cl := mm_cl) (cA := ca 0) (a0 := (i.toNatClampNeg, .inl (fun _ => 0))) hx hb (hts _ (mm_gw mm_arr.1 rfl)) (hE.1.2 0 _ rfl).2 hI.1 hI.2.2.1 (fun cA => rfl) hi (by simp only [newarray.typeOf, componentBytes]; omega) (by omega) (by omega) hd fun H1 z hP1 hS1 => ?_
      rw [e1]
      refine ih _ _ _ _ _ _ _ _ _ hg hLS ⟨?_, by rw [z, hI.2.1, List.length_append]; rfl, hS1, by rw [List.length_append]; simp; omega, by rw [mm_spush]; simp [mm_csz]; omega⟩
      rw [mm_rpush, ← hI.2.1]
      have e2 : mm_rc ca ad (.inr (.inl (decide (ArrayType.int = ArrayType.boolean), List.replicate i.toNatClampNeg 0))) = .inl (ca 0, i.toNatClampNeg, .inl (fun _ => 0)) := by
        show Sum.inl (ca 0, (List.replicate i.toNatClampNeg (0 : Int32)).length, Sum.inl (fun j => (List.replicate i.toNatClampNeg (0 : Int32)).getD j 0)) = _
        rw [List.length_replicate, mm_rep0]
      rw [e2]
      exact hP1
    · refine mm_vnewa (atype := .boolean) (D := D) (cl := mm_cl) (cA := ca 1) (a0 := (i.toNatClampNeg, .inl (fun _ => 0))) hx hb (hts _ (mm_gw mm_arr.2.1 rfl)) (hE.1.2 1 _ rfl).2 hI.1 hI.2.2.1 (fun cA => rfl) hi (by simp only [newarray.typeOf, componentBytes]; omega) (by omega) (by omega) hd fun H1 z hP1 hS1 => ?_
      rw [e1]
      refine ih _ _ _ _ _ _ _ _ _ hg hLS ⟨?_, by rw [z, hI.2.1, List.length_append]; rfl, hS1, by rw [List.length_append]; simp; omega, by rw [mm_spush]; simp [mm_csz]; omega⟩
      rw [mm_rpush, ← hI.2.1]
      have e2 : mm_rc ca ad (.inr (.inl (decide (ArrayType.boolean = ArrayType.boolean), List.replicate i.toNatClampNeg 0))) = .inl (ca 1, i.toNatClampNeg, .inl (fun _ => 0)) := by
        show Sum.inl (ca 1, (List.replicate i.toNatClampNeg (0 : Int32)).length, Sum.inl (fun j => (List.replicate i.toNatClampNeg (0 : Int32)).getD j 0)) = _
        rw [List.length_replicate, mm_rep0]
      rw [e2]
      exact hP1
  | anewarray k =>
    rw [Bool.and_eq_true] at he
    have hlen : len = 3 := of_decide_eq_true he.1
    subst hlen
    obtain ⟨i, s', rfl, hi, hib, g1, g2, hg⟩ := hw
    obtain ⟨hc1, hc2⟩ := hI.2.2.2
    have e1 : H.size = ad (h.length + 3) := by rw [had, hI.2.1]
    obtain ⟨kA, comp, -, -, -, hcA⟩ := (hE.1.2 2 _ rfl).2
    refine mm_vnewq (D := D) (cl := mm_cl) (cA := ca 2) hx hb hown (hts _ (mm_gw (of_decide_eq_true he.2) rfl)) hE.2.2.2.2.2.2.1 hcA hI.1 hI.2.2.1 hi (by omega) (by omega) (by omega) hd fun H1 z hP1 hS1 => ?_
    rw [e1]
    refine ih _ _ _ _ _ _ _ _ _ hg hLS ⟨?_, by rw [z, hI.2.1, List.length_append]; rfl, hS1, by rw [List.length_append]; simp; omega, by rw [mm_spush]; simp [mm_csz]; omega⟩
    rw [mm_rpush, ← hI.2.1]
    have e2 : mm_rc ca ad (.inr (.inr (true, List.replicate i.toNatClampNeg none))) = .inl (ca 2, i.toNatClampNeg, .inr (.inr (.inr (.inr (fun _ => none))))) := by
      show Sum.inl (ca 2, (List.replicate i.toNatClampNeg (none : Option Nat)).length, Sum.inr (Sum.inr (Sum.inr (Sum.inr (fun j => ((List.replicate i.toNatClampNeg (none : Option Nat)).getD j none).map ad))))) = _
      rw [List.length_replicate, mm_repn]
    rw [e2]
    exact hP1
  | multianewarray k dm =>
    rw [Bool.and_eq_true, Bool.and_eq_true] at he
    have hlen : len = 4 := of_decide_eq_true he.1.1
    have hdm : dm = 2 := of_decide_eq_true he.1.2
    subst hlen; subst hdm
    obtain ⟨n1, k1, s', rfl, hn, hk, hnb, hkb, g1, g2, hg⟩ := hw
    obtain ⟨hc1, hc2⟩ := hI.2.2.2
    have e1 : H.size = ad (h.length + 3) := by rw [had, hI.2.1]
    refine mm_vmna (D := D) (cl := mm_cl) (cA := ca 3) (cy := ca 0) hx hb hown (hts _ (mm_gw (of_decide_eq_true he.2) rfl)) hE.2.2.2.2.2.1 (hts _ (mm_gw mm_arr.1 rfl)) (hE.1.2 3 _ rfl).2 (hE.1.2 0 _ rfl).2 hI.1 hI.2.2.1 hn hk (by omega) (by omega) (by omega) (by omega) hd fun H1 z hP1 hS1 => ?_
    have e3 : (h ++ mm_rows n1.toNatClampNeg k1.toNatClampNeg (h.length + 3)).length = h.length + 1 + n1.toNatClampNeg := by
      rw [List.length_append]; simp [mm_rows]; omega
    have e4 : mm_sz (h ++ mm_rows n1.toNatClampNeg k1.toNatClampNeg (h.length + 3)) = mm_sz h + n1.toNatClampNeg + n1.toNatClampNeg * k1.toNatClampNeg := mm_srows
    have e5 := mm_rrows (ca := ca) (ad := ad) (base := base) (h := h) (n := n1.toNatClampNeg) (k := k1.toNatClampNeg) had
    rw [← hI.2.1] at e5
    have hst : (F0 m (pc + 4) lr (.ref H.size :: s'.map (mm_rv ad))) = F0 m (pc + 4) lr ((.inr (some (h.length + 3)) :: s').map (mm_rv ad)) := by rw [e1]; rfl
    have hgo := ih _ _ _ _ H1 locs (cells + 1 + n1.toNatClampNeg) (slots + n1.toNatClampNeg + n1.toNatClampNeg * k1.toNatClampNeg) lr hg hLS ⟨by rw [e5]; exact hP1, by rw [z, hI.2.1, e3]; omega, hS1, by rw [e3]; omega, by rw [e4]; omega⟩
    rw [← hst] at hgo
    exact hgo
  | invokevirtual k =>
    rw [Bool.and_eq_true] at he
    have hlen : len = 3 := of_decide_eq_true he.1
    subst hlen
    obtain ⟨as, r, s', fs, ci, rv, h', rfl, hn, hs8, hr, hci, hcall, g1, g2, g3, g4, hg⟩ := hw
    obtain ⟨M', hM', hMet⟩ := hCa _ _ _ _ _ hcall
    have h2 := he.2
    rw [mm_nsof hM'] at h2
    simp only [Bool.and_eq_true, decide_eq_true_eq] at h2
    obtain ⟨⟨hlk, hnc⟩, hcc⟩ := h2
    have hnc : (parseMethodDescriptor (mm_mn M').desc).map (fun d => d.parameters.length) = some b := of_decide_eq_true hnc
    have hkq : (mm_mt[a]?).map (fun M => mm_mq M) = some 0 := of_decide_eq_true hkd
    rw [hM'] at hkq
    have hq : mm_mq M' = 0 := Option.some.inj hkq
    obtain ⟨m1, m2, m3, m4, m5, m6, m7, m8, m9, -⟩ := mm_mf hM'
    obtain ⟨i4, i5⟩ := hI.2.2.2
    subst hci
    obtain ⟨qc, hqc, hqn⟩ := Option.map_eq_some_iff.mp hcc
    have hst : (as.reverse ++ .inr (some (r + 3)) :: s').map (mm_rv ad) = (as.map (mm_rv ad)).reverse ++ .ref (ad (r + 3)) :: s'.map (mm_rv ad) := by
      rw [List.map_append, List.map_reverse]; rfl
    rw [hst]
    refine mm_post hI g1 g2 (va_runV (Ts := mm_GW) (own := (mm_mn M).cls) (C := (mm_mn M').cls) (n := b) (As := as.map (mm_rv ad)) ⟨hx, hb, hml, hown, hts⟩ hMet ⟨callB_of b hts (mm_wsin hM') rfl rfl rfl (hts _ m4) (hts _ (mm_gw hlk rfl)) ⟨m7, m8, hnc⟩ ⟨hRf, by show 8 + (mm_ml M' + 11) + 64 * d ≤ R.locals; omega⟩, hts _ (m9 hq).1, hts _ (m9 hq).2⟩ ⟨mm_blind, by rw [← hqn]; exact va_recv hE.1 hI.1 hqc (mm_look had hr), mm_pre (as := .inr (some (r + 3)) :: as) hE hbs hI⟩ rfl (by rw [List.length_map]; exact hn) hLS.1 rfl (lv_room (mm_csum hs8)) hd ⟨by omega, by omega⟩) (fun H1 locs1 cells1 slots1 hI1 => ?_)
    have h9 := ih _ _ _ _ H1 locs1 cells1 slots1 lr hg hLS hI1
    rw [List.map_append] at h9
    cases rv <;> exact h9
  | invokestatic k =>
    rw [Bool.and_eq_true] at he
    have hlen : len = 3 := of_decide_eq_true he.1
    subst hlen
    have h2 := he.2
    obtain ⟨i4, i5⟩ := hI.2.2.2
    have gen : (∃ as s' rv h', st = as.reverse ++ s' ∧ as.length = b ∧ s'.length ≤ 8 ∧ Ca a as h rv h' ∧ h.length ≤ h'.length ∧ mm_sz h ≤ mm_sz h' ∧ h'.length ≤ hl ∧ mm_sz h' ≤ hs ∧ mm_wp ro Ca (mm_mr M) (mm_mk M) hl hs K n (pc + 3) ls ((rv.map Sum.inl).toList ++ s') h') → decide ((mm_mt[a]?).map (fun M => mm_mq M) = some 1) = true → (∀ M', mm_mt[a]? = some M' → mm_nchk (mm_mn M') b = true ∧ ((cx = 0 ∧ lw_tbl[w]? = some (.methodLink (mm_mn M).cls k (mm_mn M'))) ∨ ((mm_mn M).cls = "LineMap$Search" ∧ k = 129 ∧ mm_mn M' = ⟨"LineMap", "isWithin", "(III)Z"⟩))) → W p l e R s m args below meth c H locs cells slots Q (F0 m pc lr (st.map (mm_rv ad))) := by
      intro hw hkd hlks
      obtain ⟨as, s', rv, h', rfl, hn, hs8, hcall, g1, g2, g3, g4, hg⟩ := hw
      obtain ⟨M', hM', hMet⟩ := hCa _ _ _ _ _ hcall
      obtain ⟨hnc, hlks⟩ := hlks M' hM'
      have hnc : (parseMethodDescriptor (mm_mn M').desc).map (fun d => d.parameters.length) = some b := of_decide_eq_true hnc
      have hkq : (mm_mt[a]?).map (fun M => mm_mq M) = some 1 := of_decide_eq_true hkd
      rw [hM'] at hkq
      have hq : mm_mq M' = 1 := Option.some.inj hkq
      obtain ⟨m1, m2, m3, m4, m5, m6, m7, m8, -, m10, -⟩ := mm_mf hM'
      have hst : (as.reverse ++ s').map (mm_rv ad) = (as.map (mm_rv ad)).reverse ++ s'.map (mm_rv ad) := by
        rw [List.map_append, List.map_reverse]
      rw [hst]
      have fin : ∀ (H1 : Heap) (locs1 : List Loc) (cells1 slots1 : Nat), mm_I base ad D ca s h0l h0s h' H1 locs1 cells1 slots1 → W p l e R s m args below meth c H1 locs1 cells1 slots1 Q (F0 m (pc + 3) lr ((rv.map Value.int).toList ++ s'.map (mm_rv ad))) := fun H1 locs1 cells1 slots1 hI1 => by
        have h9 := ih _ _ _ _ H1 locs1 cells1 slots1 lr hg hLS hI1
        rw [List.map_append] at h9
        cases rv <;> exact h9
      rcases hlks with ⟨-, hlk⟩ | ⟨hcs, hk, hy⟩
      · exact mm_post hI g1 g2 (va_runS (Ts := mm_GW) (own := (mm_mn M).cls) (n := b) (As := as.map (mm_rv ad)) ⟨hx, hb, hml, hown, hts⟩ hMet ⟨callB_of b hts (mm_wsin hM') rfl rfl rfl (hts _ m4) (hts _ (mm_gw hlk rfl)) ⟨m7, m8, hnc⟩ ⟨hRf, by show 8 + (mm_ml M' + 11) + 64 * d ≤ R.locals; omega⟩, hts _ (m10 hq)⟩ ⟨mm_blind, mm_pre (as := as) hE hbs hI⟩ rfl (by rw [List.length_map]; exact hn) hLS.1 rfl (lv_room (mm_csum hs8)) hd ⟨by omega, by omega⟩) fin
      · subst hk
        rw [hcs] at hown
        have hnw := hE.2.2.1
        rw [← hy] at hnw
        exact mm_post hI g1 g2 (va_runSN (Ts := mm_GW) (own := "LineMap$Search") (host := "LineMap") (n := b) (As := as.map (mm_rv ad)) ⟨hx, hb, hml, hown, hts⟩ hMet ⟨va_cnB b hts (mm_wsin hM') rfl rfl rfl hnw (hts _ m4) ⟨m7, m8, hnc⟩ ⟨hRf, by show 8 + (mm_ml M' + 11) + 64 * d ≤ R.locals; omega⟩, hts _ (m10 hq), trivial⟩ ⟨mm_blind, mm_pre (as := as) hE hbs hI⟩ rfl (by rw [List.length_map]; exact hn) hLS.1 rfl (lv_room (mm_csum hs8)) hd ⟨by omega, by omega⟩) fin
    cases hna : mm_ns[a]? with
    | none => rw [hna] at h2; cases h2
    | some y0 =>
      rw [hna] at h2
      have hys : ∀ M', mm_mt[a]? = some M' → mm_mn M' = y0 := fun M' h9 => Option.some.inj ((mm_nsof h9).symm.trans hna)
      have mth : ∀ {x : MethodName}, lw_tbl[w]? = some (.methodLink (mm_mn M).cls k x) → (Cond.methodLink (mm_mn M).cls k x).before args s = true := fun h9 => hts _ (mm_gw h9 rfl)
      have hini := hts _ (mm_gw mm_math.2.2.2.2.2.2 rfl)
      by_cases c10 : cx = 10
      · subst c10
        obtain ⟨x, s', rfl, hs8, hl1, hl2, hg⟩ := hw
        have hc9 := mm_csum (ad := ad) hs8
        exact va_mabs hx hb (hml.trans hLS.1.symm) hown (mth (of_decide_eq_true h2)) (hts _ (mm_gw mm_math.1 rfl)) hini (hts _ (mm_gw mm_math.2.2.2.1 rfl)) (by omega) (by omega) (by omega) (by omega) hd (ih _ _ _ _ _ _ _ _ _ hg hLS hI)
      by_cases c11 : cx = 11
      · subst c11
        obtain ⟨x, y, s', rfl, hs8, hl1, hl2, hg⟩ := hw
        have hc9 := mm_csum (ad := ad) hs8
        exact va_mmax hx hb (hml.trans hLS.1.symm) hown (mth (of_decide_eq_true h2)) (hts _ (mm_gw mm_math.2.1 rfl)) hini (hts _ (mm_gw mm_math.2.2.2.2.1 rfl)) (by omega) (by omega) (by omega) (by omega) hd (ih _ _ _ _ _ _ _ _ _ hg hLS hI)
      by_cases c12 : cx = 12
      · subst c12
        obtain ⟨x, y, s', rfl, hs8, hl1, hl2, hg⟩ := hw
        have hc9 := mm_csum (ad := ad) hs8
        exact va_mmin hx hb (hml.trans hLS.1.symm) hown (mth (of_decide_eq_true h2)) (hts _ (mm_gw mm_math.2.2.1 rfl)) hini (hts _ (mm_gw mm_math.2.2.2.2.2.1 rfl)) (by omega) (by omega) (by omega) (by omega) hd (ih _ _ _ _ _ _ _ _ _ hg hLS hI)
      have hw2 : ∃ as s' rv h', st = as.reverse ++ s' ∧ as.length = b ∧ s'.length ≤ 8 ∧ Ca a as h rv h' ∧ h.length ≤ h'.length ∧ mm_sz h ≤ mm_sz h' ∧ h'.length ≤ hl ∧ mm_sz h' ≤ hs ∧ mm_wp ro Ca (mm_mr M) (mm_mk M) hl hs K n (pc + 3) ls ((rv.map Sum.inl).toList ++ s') h' := by
        unfold mm_one at hw
        dsimp only at hw
        split at hw <;> first | exact absurd rfl c10 | exact absurd rfl c11 | exact absurd rfl c12 | exact hw
      have hkd2 : decide ((mm_mt[a]?).map (fun M => mm_mq M) = some 1) = true := by
        unfold mm_kchk at hkd
        dsimp only at hkd
        split at hkd <;> first | exact absurd rfl c10 | exact absurd rfl c11 | exact absurd rfl c12 | exact hkd
      refine gen hw2 hkd2 fun M' hM' => ?_
      have hy := hys M' hM'
      simp only at h2
      split at h2
      · rw [Bool.and_eq_true] at h2
        rw [hy]
        exact ⟨h2.1, Or.inl ⟨rfl, of_decide_eq_true h2.2⟩⟩
      · exact absurd rfl c10
      · exact absurd rfl c11
      · exact absurd rfl c12
      · rw [Bool.and_eq_true, Bool.and_eq_true, Bool.and_eq_true] at h2
        obtain ⟨⟨⟨q1, q2⟩, q3⟩, q4⟩ := h2
        rw [hy]
        exact ⟨q1, Or.inr ⟨of_decide_eq_true q2, of_decide_eq_true q3, of_decide_eq_true q4⟩⟩
  | invokespecial k =>
    rw [Bool.and_eq_true] at he
    have hlen : len = 3 := of_decide_eq_true he.1
    subst hlen
    have h2 := he.2
    obtain ⟨i4, i5⟩ := hI.2.2.2
    by_cases c2 : cx = 2
    · subst c2
      obtain ⟨r, s', rfl, hs8, hg⟩ := hw
      have hc9 := mm_csum (ad := ad) hs8
      refine W.objInit hx hb hown (hts _ (mm_gw (of_decide_eq_true h2) rfl)) (hts _ (mm_gw mm_obj.1 rfl)) (hts _ (mm_gw mm_obj.2 rfl)) rfl (hLS.1.trans hml.symm) rfl hd (by omega) (by show 2 * 0 + _ + 12 ≤ _; omega) ?_
      exact ih _ _ _ _ _ _ _ _ _ hg hLS hI
    · have hw2 : ∃ as r s' h', st = as.reverse ++ .inr (some r) :: s' ∧ as.length = b ∧ s'.length ≤ 8 ∧ Ca a (.inr (some r) :: as) h none h' ∧ h.length ≤ h'.length ∧ mm_sz h ≤ mm_sz h' ∧ h'.length ≤ hl ∧ mm_sz h' ≤ hs ∧ mm_wp ro Ca (mm_mr M) (mm_mk M) hl hs K n (pc + 3) ls s' h' := by
        unfold mm_one at hw
        dsimp only at hw
        split at hw <;> first | exact absurd rfl c2 | exact hw
      have hkd2 : decide ((mm_mt[a]?).map (fun M => (mm_mq M, mm_mr M)) = some (2, none)) = true := by
        unfold mm_kchk at hkd
        dsimp only at hkd
        split at hkd <;> first | exact absurd rfl c2 | exact hkd
      obtain ⟨as, r, s', h', rfl, hn, hs8, hcall, g1, g2, g3, g4, hg⟩ := hw2
      obtain ⟨M', hM', hMet⟩ := hCa _ _ _ _ _ hcall
      have hkq := of_decide_eq_true hkd2
      rw [hM'] at hkq
      have hq : mm_mq M' = 2 := congrArg Prod.fst (Option.some.inj hkq)
      have hret : mm_mr M' = none := congrArg Prod.snd (Option.some.inj hkq)
      obtain ⟨m1, m2, m3, m4, m5, m6, m7, m8, -, -, m11⟩ := mm_mf hM'
      have hst : (as.reverse ++ .inr (some r) :: s').map (mm_rv ad) = (as.map (mm_rv ad)).reverse ++ .ref (ad r) :: s'.map (mm_rv ad) := by
        rw [List.map_append, List.map_reverse]; rfl
      rw [hst]
      have fin : ∀ (H1 : Heap) (locs1 : List Loc) (cells1 slots1 : Nat), mm_I base ad D ca s h0l h0s h' H1 locs1 cells1 slots1 → W p l e R s m args below meth c H1 locs1 cells1 slots1 Q (F0 m (pc + 3) lr (((none : Option Int32).map Value.int).toList ++ s'.map (mm_rv ad))) := fun H1 locs1 cells1 slots1 hI1 => ih _ _ _ _ H1 locs1 cells1 slots1 lr hg hLS hI1
      have hwsr : mm_ws M' = .code (mm_mn M') (mm_mb M') (mm_ml M') none :: mm_GW := by rw [mm_ws, hret]
      rw [mm_nsof hM'] at h2
      simp only at h2
      split at h2
      · exact absurd rfl c2
      · rw [Bool.and_eq_true, Bool.and_eq_true] at h2
        obtain ⟨⟨q1, q2⟩, q3⟩ := h2
        have hnc : (parseMethodDescriptor (mm_mn M').desc).map (fun d => d.parameters.length) = some b := of_decide_eq_true q1
        exact mm_post hI g1 g2 (va_runI (Ts := mm_GW) (own := (mm_mn M).cls) (n := b) (As := as.map (mm_rv ad)) ⟨hx, hb, hml, hown, hts⟩ hMet ⟨callB_of b hts (mm_wsin hM') hwsr rfl rfl (hts _ m4) (hts _ (mm_gw (of_decide_eq_true q2) rfl)) ⟨m7, m8, hnc⟩ ⟨hRf, by show 8 + (mm_ml M' + 11) + 64 * d ≤ R.locals; omega⟩, of_decide_eq_true q3, hts _ (m11 hq)⟩ ⟨mm_blind, mm_pre (as := .inr (some r) :: as) hE hbs hI⟩ rfl (by rw [List.length_map]; exact hn) hLS.1 rfl (lv_room (mm_csum hs8)) hd ⟨by omega, by omega⟩) fin
      · rw [Bool.and_eq_true, Bool.and_eq_true, Bool.and_eq_true] at h2
        obtain ⟨⟨⟨q1, q2⟩, q3⟩, q4⟩ := h2
        have hnc : (parseMethodDescriptor (mm_mn M').desc).map (fun d => d.parameters.length) = some b := of_decide_eq_true q1
        have hk : k = 25 := of_decide_eq_true q3
        have hcs : (mm_mn M).cls = "LineMap" := of_decide_eq_true q2
        have hy : mm_mn M' = ⟨"LineMap$Terms", "<init>", "()V"⟩ := of_decide_eq_true q4
        subst hk
        rw [hcs] at hown
        have hnw := hE.2.1
        rw [← hy] at hnw
        exact mm_post hI g1 g2 (va_runIN (Ts := mm_GW) (own := "LineMap") (host := "LineMap") (n := b) (As := as.map (mm_rv ad)) ⟨hx, hb, hml, hown, hts⟩ hMet ⟨va_cnB b hts (mm_wsin hM') hwsr rfl rfl hnw (hts _ m4) ⟨m7, m8, hnc⟩ ⟨hRf, by show 8 + (mm_ml M' + 11) + 64 * d ≤ R.locals; omega⟩, by rw [hy], hts _ (m11 hq)⟩ ⟨mm_blind, mm_pre (as := .inr (some r) :: as) hE hbs hI⟩ rfl (by rw [List.length_map]; exact hn) hLS.1 rfl (lv_room (mm_csum hs8)) hd ⟨by omega, by omega⟩) fin
  | ireturn =>
    have hlen : len = 1 := of_decide_eq_true he
    subst hlen
    obtain ⟨v, rfl, hrt, hk⟩ := hw
    exact kI pc lr v h H locs cells slots hd hrt hk hI
  | return_ =>
    have hlen : len = 1 := of_decide_eq_true he
    subst hlen
    obtain ⟨rfl, hrt, hk⟩ := hw
    exact kV pc lr h H locs cells slots hd hrt hk hI
  | _ => exact False.elim hw
end MX
end
section
/-! A call of the little machine is a contract of the machine; the law's entry. -/
section MC
variable {l : Launch} {ro : Nat → List Int32} {base : Nat} {ad : Nat → Nat} {D : va_G} {ca : Nat → ClassId}
theorem mm_met (had : ∀ k, ad (k + 3) = base + k) : ∀ (d y : Nat) (as : List mm_V) (h : mm_H) (r : Option Int32) (h' : mm_H), mm_EvT mm_mt ro d y as h r h' → ∃ M', mm_mt[y]? = some M' ∧ mm_Mt l ro base ad D ca M' d as h r h'
  | 0, _, _, _, _, _, hh => False.elim hh
  | d + 1, y, as, h, r, h', hh => by
    obtain ⟨M, hM, hlen, n, hw⟩ := hh
    refine ⟨M, hM, ?_⟩
    obtain ⟨m1, m2, m3, m4, m5, m6, m7, m8, -⟩ := mm_mf hM
    unfold mm_Mt
    refine Met.ofW (cc := mm_mb M) (maxL := mm_ml M) (ret := mm_mr M) m6 rfl ?_
    intro p e s m args below meth c s₁ B hml hv
    obtain ⟨rfl, hsz, hP, hE⟩ := hv
    have hx := B.exec
    have hb := B.bytes
    have hr := B.returns
    have hts0 := atoms_spec (ws := mm_ws M) B.pre
    have hown : s.vm.findClass (mm_mn M).cls = some m.cls := findClass_of_methodNamed B.named
    have hlocks := B.notSynchronized
    have hin : meth.name = (mm_mn M).name := (name_of_methodNamed B.named B.method).1
    rw [lg_entry_eq]
    refine mm_sim (l := l) (Q := MQ below (mm_Qc base ad D ca r h') _ s (h'.length - h.length) (mm_sz h' - mm_sz h) (fun q => base ≤ q)) had M d (mm_EvT mm_mt ro d) (fun y as h r h' h9 => mm_met had d y as h r h' h9) ⟨hx, hb, hml, hown, fun w hw => hts0 w (List.mem_cons_of_mem _ hw), fun h9 => hin.trans h9, m1, m2, hE, by omega, Nat.le_refl _, Nat.le_refl _⟩ h'.length (mm_sz h') h.length (mm_sz h) (by show _ ≤ h'.length - h.length + _; omega) (by show _ ≤ mm_sz h' - mm_sz h + _; omega) _ ?_ ?_ n 0 (mm_ent M as) [] h s.heap [] 0 0 _ hw (mm_entry hlen) ⟨hP, hsz, va_S.rf, by omega, by omega⟩
    · intro pc lr v h2 H locs cells slots hd hrt hk hI
      obtain ⟨rfl, rfl⟩ := hk
      obtain ⟨i1, i2, i3, i4, i5⟩ := hI
      have e1 : cells = h2.length - h.length := by omega
      have e2 : slots = mm_sz h2 - mm_sz h := by omega
      rw [e1, e2]
      have hq : ∀ t : State, t.heap = H → s.WarmedH t.vm → mm_Qc base ad D ca (some v) h2 (as.map (mm_rv ad)).toArray s (.returned (some (.int v))) t := fun t ht hW => ⟨⟨v, (), rfl, rfl, by rw [ht]; exact i2, by rw [ht]; exact i1⟩, i3.F ht⟩
      rcases hrt with hrt | ⟨hrt, hv01⟩
      · exact W.iret hx hb (hr.trans hrt) hq i3.2.2 hd hlocks
      · exact W.zret hx hb (hr.trans hrt) (by rcases hv01 with rfl | rfl <;> decide +kernel) hq i3.2.2 hd hlocks
    · intro pc lr h2 H locs cells slots hd hrt hk hI
      obtain ⟨rfl, rfl⟩ := hk
      obtain ⟨i1, i2, i3, i4, i5⟩ := hI
      have e1 : cells = h2.length - h.length := by omega
      have e2 : slots = mm_sz h2 - mm_sz h := by omega
      rw [e1, e2]
      exact W.vret hx hb (hr.trans hrt) (fun t ht hW => ⟨⟨(), rfl, trivial, by rw [ht]; exact i2, by rw [ht]; exact i1⟩, i3.F ht⟩) i3.2.2 hd hlocks
/-- the read-only arrays: the script, STEP_X, STEP_Y -/
def mm_ro (xs : List Int32) (k : Nat) : List Int32 := match k with
  | 0 => xs
  | 1 => [1, 1, 0, -1, -1, -1, 0, 1]
  | _ => [0, 1, 1, 1, 0, -1, -1, -1]
/-- all that is left: the law's run in the little machine, at calls of depth 30 -/
def mm_Goal (K : Option Int32 → mm_H → Prop) : Prop := ∀ xs : List Int32, xs.length ≤ 2048 → ∃ n, mm_wp (mm_ro xs) (mm_EvT mm_mt (mm_ro xs) 30) (some .boolean) mm_kl 600000 7302250 K n 0 (mm_ent mm_law [.inr (some 0)]) [] []
theorem mm_env {args : Array Value} {s : State} {b L : Nat} {f : Nat → Int32} (hL : L ≤ 2048) (hts : ∀ w ∈ lw_tbl, w.before args s = true) (hX : va_X b L f s s.heap) (hbl : b < s.heap.size) (hg : (Jvm.Cond.and given_1 narrow_1).before args s = true) :
    ∃ (ad : Nat → Nat) (D : va_G) (ca : Nat → ClassId), (∀ k, ad (k + 3) = s.heap.size + k) ∧ ad 0 = b ∧ mm_Env (mm_ro ((List.range L).map f)) s.heap.size ad D ca s := by
  have hs := flat_of_before _ hg
  have tb : ∀ {i : Nat} {w : Cond}, lw_tbl[i]? = some w → w.before args s = true := fun h => hts _ (List.mem_of_getElem? h)
  have hgw : ∀ w ∈ mm_GW, w.before args s = true := fun w hw => hts w (List.mem_filter.mp hw).1
  have hA : ∀ a : Nat, a < s.heap.size → ¬ (fun q : Nat => s.heap.size ≤ q) a := fun a ha h => absurd h (Nat.not_le.mpr ha)
  obtain ⟨w1, w2, w3, w4, w5, w6, w7, w8, w9, w10⟩ := mm_arr
  -- the classes
  have hcls : ∀ c : Nat, ∃ q : ClassId × (Nat → Nat), ∀ r : vw_C, mm_cl[c]? = some r → u_Kn s r.1 r.2.1 r.2.2 q.1 q.2 := by
    intro c
    cases hc : mm_cl[c]? with
    | none => exact ⟨(0, fun _ => 0), fun r hr => by cases hr⟩
    | some r =>
      obtain ⟨k1, -, -, k5, -⟩ := mm_ck c r hc
      obtain ⟨cC, iS, h⟩ := u_known hgw k1 (hgw _ k5)
      exact ⟨(cC, iS), fun r' hr => by cases hr; exact h⟩
  -- the array classes
  obtain ⟨c0, k0, p0, a1, a2, a3⟩ := Cond.arrayClass_spec (tb w1)
  obtain ⟨c1, k1, p1, b1, b2, b3⟩ := Cond.arrayClass_spec (tb w2)
  obtain ⟨p2, c2, k2, d1, -, d3, d4, d5⟩ := Cond.arrayOver_spec (tb w4)
  obtain ⟨p3, c3, k3, e1, -, e3, e4, e5⟩ := arrayOverA_spec (tb w3)
  -- the statics
  have sx : ∀ j : Nat, j < 8 → (Term.elem (.static "LineMap" "STEP_X" "[I") (.int (Int32.ofNat j))).eval args s none [] s = some (.int ((mm_ro [] 1).getD j 0)) := by
    intro j hj
    have hj' : j = 0 ∨ j = 1 ∨ j = 2 ∨ j = 3 ∨ j = 4 ∨ j = 5 ∨ j = 6 ∨ j = 7 := by omega
    rcases hj' with rfl | rfl | rfl | rfl | rfl | rfl | rfl | rfl <;> exact va_eqt (hs _ (by decide +kernel))
  have sy : ∀ j : Nat, j < 8 → (Term.elem (.static "LineMap" "STEP_Y" "[I") (.int (Int32.ofNat j))).eval args s none [] s = some (.int ((mm_ro [] 2).getD j 0)) := by
    intro j hj
    have hj' : j = 0 ∨ j = 1 ∨ j = 2 ∨ j = 3 ∨ j = 4 ∨ j = 5 ∨ j = 6 ∨ j = 7 := by omega
    rcases hj' with rfl | rfl | rfl | rfl | rfl | rfl | rfl | rfl <;> exact va_eqt (hs _ (by decide +kernel))
  obtain ⟨tx, hx1, hx2⟩ := va_Tof (A := fun q => s.heap.size ≤ q) (N := 8) (by decide) (hs (.arrayOf (.static "LineMap" "STEP_X" "[I") .int) (by decide +kernel)) (va_eqt (hs (.eq (.length (.static "LineMap" "STEP_X" "[I")) (.int 8)) (by decide +kernel))) sx hA
  obtain ⟨ty, hy1, hy2⟩ := va_Tof (A := fun q => s.heap.size ≤ q) (N := 8) (by decide) (hs (.arrayOf (.static "LineMap" "STEP_Y" "[I") .int) (by decide +kernel)) (va_eqt (hs (.eq (.length (.static "LineMap" "STEP_Y" "[I")) (.int 8)) (by decide +kernel))) sy hA
  have hini : (Cond.initialized "LineMap").before args s = true := tb mm_ins7.2
  have hzx := va_Zref (A := fun q => s.heap.size ≤ q) (tb w9) hini hx1 hA
  have hzy := va_Zref (A := fun q => s.heap.size ≤ q) (tb w10) hini hy1 hA
  have hscr : va_T .int b L (fun j => .int (((List.range L).map f).getD j 0)) (fun q => s.heap.size ≤ q) s s.heap := by
    obtain ⟨scr, q1, q2, q3, q4, q5⟩ := hX
    refine ⟨scr, q1, q2, q3, by omega, by rw [q4], fun j hj => ?_, hA b hbl⟩
    rw [q5 j hj]
    simp [List.getD_eq_getElem?_getD, hj]
  refine ⟨fun k => if k = 0 then b else if k = 1 then tx else if k = 2 then ty else s.heap.size + (k - 3), (fun c => (Classical.choose (hcls c)).1, fun c => (Classical.choose (hcls c)).2), fun k => if k = 0 then c0 else if k = 1 then c1 else if k = 2 then c2 else c3, fun k => ?_, rfl, ⟨fun c q hq => Classical.choose_spec (hcls c) q hq, fun k q hk => ?_⟩, va_Nw.of rfl (tb w5), va_Nw.of rfl (tb w6), va_Nw.of rfl (tb w7), va_Nw.of rfl (tb w8), tb w3, va_AO.of (tb w4), fun k hk => ?_, hzx, hzy⟩
  · show (if k + 3 = 0 then b else if k + 3 = 1 then tx else if k + 3 = 2 then ty else s.heap.size + (k + 3 - 3)) = _
    rw [if_neg (by omega), if_neg (by omega), if_neg (by omega)]
    omega
  · match k, hk with
    | 0, hk => cases hk; exact ⟨fun n z => ⟨fun k h => (by cases h), k0, a2, p0, a3⟩, a1⟩
    | 1, hk => cases hk; exact ⟨fun n z => ⟨fun k h => (by cases h), k1, b2, p1, b3⟩, b1⟩
    | 2, hk => cases hk; exact ⟨fun n z => ⟨fun k h => (by cases h), k2, d3, p2, d4⟩, k2, p2, d3, d4, d1, d5⟩
    | 3, hk => cases hk; exact ⟨fun n z => ⟨fun k h => (by cases h), k3, e3, p3, e4⟩, e5⟩
    | n + 4, hk => simp at hk
  · match k, hk with
    | 0, _ => simpa [mm_ro] using hscr
    | 1, _ => exact hx2
    | 2, _ => exact hy2
    | n + 3, hk => omega
end MC
end
section
/-! THE CLAIM OUT OF ONE WALK OF THE LAW'S BODY (began as the kit's skeleton) -/
def R_law : String := "LineMapLaw"
def lw_P (b : Addr) (xs : List Int32) (args : Array Value) (s : State) : Prop := args = #[.ref b] ∧ s.IntsAt b xs ∧ xs.length ≤ 2048 ∧ (Jvm.Cond.and given_1 narrow_1).before args s = true
def lw_Q (_ : Array Value) (s : State) (o : Outcome) (t : State) : Prop := o = .returned (some (.int 1)) ∧ Framed s o t [] 600000 7302250
def lw_Z (below : List Frame) (a : Array Value) (s : State) : State → Prop := fun t => ∃ o, t.status = .running ∧ Ended t below o ∧ lw_Q a s o t
/-- the law's own end, with 1 on the stack, nothing written that was there before, its room as the claim has it -/
theorem lw_ret {p : Program} {l : Launch} {e : Env} {s : State} {m : MethodId} {below : List Frame} {meth : Method} {c : Code} {b : Nat} (hx : p.tables.exec = Jvm.exec) (hb : c.code = code) (hr : meth.sig.returnType = ret) (hlocks : meth.locks = false) {pc : Nat} {H : Heap} {ls : Array Slot} (hdg : decode code pc = .ok (.ireturn, 1)) : W p l e room_1 s m #[Value.ref b] below meth c H [] 600000 7302250 (lw_Z below #[Value.ref b] s) (F0 m pc ls [.int 1]) := by
  intro T hT X
  obtain ⟨fs, hret, hrun, hended, hW, hframe⟩ := X.leave (v := some (.int 1)) (hlocks := hlocks) (fun h => by rw [hr] at h; cases h)
  have hmeth' : T.vm.method? m = some meth := X.method'
  refine ⟨T.setFrames fs, ?_, .returned (some (.int 1)), hrun, hended, rfl, ⟨_, rfl⟩, hW, hframe⟩
  jvm_step X.here [X.here.top, hx, hb, hdg, hmeth', hr, ret, narrow_b1]
  (try refine ⟨rfl, ?_⟩); (try refine ⟨rfl, ?_⟩)
  first | (intro acts; rw [hret _ acts rfl rfl rfl]) | rw [hret _ _ rfl rfl rfl]
  exact Steps.refl _
/-- what holds at the law's entry: the machine, the code, the tables' words (any of lw_tbl by 'hts w (by decide +kernel)'), the script of L ints xs at the cell b, what the Statement gives of the start (any of its parts by flat_of_before) -/
def lw_At (p : Program) (s : State) (m : MethodId) (meth : Method) (c : Code) (b L : Nat) (xs : Nat → Int32) : Prop :=
  p.tables.exec = Jvm.exec ∧ c.code = code ∧ meth.sig.returnType = ret ∧ c.maxLocals = 4 ∧ s.vm.findClass R_law = some m.cls ∧ (∀ w ∈ lw_tbl, w.before #[Value.ref b] s = true) ∧ va_X b L xs s s.heap ∧ b < s.heap.size ∧ meth.locks = false ∧ (Jvm.Cond.and given_1 narrow_1).before #[Value.ref b] s = true
/-- the law's walk out of its run in the little machine -/
theorem whole_open {K : Option Int32 → mm_H → Prop} (hK : ∀ r h, K r h → r = some 1 ∧ h.length ≤ 600000 ∧ mm_sz h ≤ 7302250) (G : mm_Goal K) {p : Program} {e : Env} {s : State} {m : MethodId} {below : List Frame} {meth : Method} {c : Code} (l : Launch) {b L : Nat} {xs : Nat → Int32} (hL : L ≤ 2048) (C0 : lw_At p s m meth c b L xs) : W p l e room_1 s m #[Value.ref b] below meth c s.heap [] 0 0 (lw_Z below #[Value.ref b] s) (entryFrame m ([Value.ref b] : List Value).toArray 4) := by
  obtain ⟨hx, hb, hr, hml, hown, hts, hX, hbl, hlocks, hgv⟩ := C0
  obtain ⟨ad, D, ca, had, h0, hE⟩ := mm_env hL hts hX hbl hgv
  obtain ⟨n, hw⟩ := G ((List.range L).map xs) (by simpa using hL)
  have hargs : ([Value.ref b] : List Value) = ([.inr (some 0)] : List mm_V).map (mm_rv ad) := by
    show _ = [va_rf (some (ad 0))]
    rw [h0]
    rfl
  have hent : entryFrame m ([Value.ref b] : List Value).toArray 4 = F0 m 0 ((lg_sl (([.inr (some 0)] : List mm_V).map (mm_rv ad)) ++ List.replicate (mm_ml mm_law - (lg_sl (([.inr (some 0)] : List mm_V).map (mm_rv ad))).length) Slot.unset).toArray) [] := by
    rw [hargs, lg_entry_eq]
    rfl
  rw [hent]
  refine mm_sim (l := l) (ro := mm_ro ((List.range L).map xs)) (base := s.heap.size) (Q := lw_Z below #[Value.ref b] s) (R := room_1) had mm_law 30 (mm_EvT mm_mt (mm_ro ((List.range L).map xs)) 30) (fun y as h r h' h9 => mm_met had 30 y as h r h' h9) ⟨hx, hb, hml, hown, fun w hw => hts w (List.mem_filter.mp hw).1, fun h9 => absurd h9 (by decide), mm_kl_ok, mm_klall, hE, Nat.le_refl _, by decide, by decide⟩ 600000 7302250 0 0 (by decide) (by decide) _ ?_ ?_ n 0 (mm_ent mm_law [.inr (some 0)]) [] [] s.heap [] 0 0 _ hw (mm_entry (M := mm_law) (by decide)) ⟨fun k q hk => by simp [mm_rd] at hk, rfl, va_S.rf, rfl, rfl⟩
  · intro pc lr v h2 H locs cells slots hd hrt hk hI
    obtain ⟨hk1, hk2, hk3⟩ := hK _ _ hk
    cases hk1
    obtain ⟨i1, i2, i3, i4, i5⟩ := hI
    exact va_forget i3.2.2 (W.widen (by omega) (by omega) (lw_ret hx hb hr hlocks hd))
  · intro pc lr h2 H locs cells slots hd hrt hk hI
    cases (hK _ _ hk).1
end
section
/-! A run of the little machine has one outcome, and wants no more room than its outcome has. -/
section MO
variable {ro : Nat → List Int32} {Ca : mm_R} {rt : Option FieldType} {code : List mm_E}
def mm_pin (r : Option Int32) (h' : mm_H) : Option Int32 → mm_H → Prop := fun r2 h2 => r2 = r ∧ h2 = h'
set_option maxHeartbeats 2000000 in
theorem mm_out {hl hs : Nat} {K : Option Int32 → mm_H → Prop} : ∀ (n pc : Nat) (ls : mm_L) (st : List mm_V) (h : mm_H), mm_wp ro Ca rt code hl hs K n pc ls st h → ∃ r h', K r h' ∧ h.length ≤ h'.length ∧ mm_sz h ≤ mm_sz h' ∧ mm_wp ro Ca rt code h'.length (mm_sz h') (mm_pin r h') n pc ls st h
  | 0, _, _, _, _, hw => False.elim hw
  | n + 1, pc, ls, st, h, hw => by
    have ih := fun pc ls st h hh => mm_out (hl := hl) (hs := hs) (K := K) n pc ls st h hh
    obtain ⟨i, len, a, b, c, w, hat, hw⟩ := hw
    suffices hgo : ∃ r h', K r h' ∧ h.length ≤ h'.length ∧ mm_sz h ≤ mm_sz h' ∧ mm_one ro Ca rt h'.length (mm_sz h') (mm_pin r h') (mm_wp ro Ca rt code h'.length (mm_sz h') (mm_pin r h') n) pc i a b c ls st h by
      obtain ⟨r, h', k, l1, l2, hg⟩ := hgo
      exact ⟨r, h', k, l1, l2, i, len, a, b, c, w, hat, hg⟩
    clear hat
    cases i with
    | iconst v =>
      obtain ⟨r9, h9, k, l1, l2, hg⟩ := ih _ _ _ _ hw
      exact ⟨r9, h9, k, l1, l2, hg⟩
    | bipush v =>
      obtain ⟨r9, h9, k, l1, l2, hg⟩ := ih _ _ _ _ hw
      exact ⟨r9, h9, k, l1, l2, hg⟩
    | sipush v =>
      obtain ⟨r9, h9, k, l1, l2, hg⟩ := ih _ _ _ _ hw
      exact ⟨r9, h9, k, l1, l2, hg⟩
    | ldc v =>
      obtain ⟨r9, h9, k, l1, l2, hg⟩ := ih _ _ _ _ hw
      exact ⟨r9, h9, k, l1, l2, hg⟩
    | goto v =>
      obtain ⟨r9, h9, k, l1, l2, hg⟩ := ih _ _ _ _ hw
      exact ⟨r9, h9, k, l1, l2, hg⟩
    | iload_n v =>
      obtain ⟨x, e1, hg⟩ := hw
      obtain ⟨r9, h9, k, l1, l2, hg⟩ := ih _ _ _ _ hg
      refine ⟨r9, h9, k, l1, l2, ?_⟩
      dsimp only [mm_one]
      exact ⟨x, e1, hg⟩
    | iload v =>
      obtain ⟨x, e1, hg⟩ := hw
      obtain ⟨r9, h9, k, l1, l2, hg⟩ := ih _ _ _ _ hg
      refine ⟨r9, h9, k, l1, l2, ?_⟩
      dsimp only [mm_one]
      exact ⟨x, e1, hg⟩
    | aload_n v =>
      obtain ⟨x, e1, hg⟩ := hw
      obtain ⟨r9, h9, k, l1, l2, hg⟩ := ih _ _ _ _ hg
      refine ⟨r9, h9, k, l1, l2, ?_⟩
      dsimp only [mm_one]
      exact ⟨x, e1, hg⟩
    | iinc v w =>
      obtain ⟨x, e1, hg⟩ := hw
      obtain ⟨r9, h9, k, l1, l2, hg⟩ := ih _ _ _ _ hg
      refine ⟨r9, h9, k, l1, l2, ?_⟩
      dsimp only [mm_one]
      exact ⟨x, e1, hg⟩
    | istore_n v =>
      obtain ⟨x, s1, e1, e2, hg⟩ := hw
      obtain ⟨r9, h9, k, l1, l2, hg⟩ := ih _ _ _ _ hg
      refine ⟨r9, h9, k, l1, l2, ?_⟩
      dsimp only [mm_one]
      exact ⟨x, s1, e1, e2, hg⟩
    | istore v =>
      obtain ⟨x, s1, e1, e2, hg⟩ := hw
      obtain ⟨r9, h9, k, l1, l2, hg⟩ := ih _ _ _ _ hg
      refine ⟨r9, h9, k, l1, l2, ?_⟩
      dsimp only [mm_one]
      exact ⟨x, s1, e1, e2, hg⟩
    | astore_n v =>
      obtain ⟨x, s1, e1, e2, hg⟩ := hw
      obtain ⟨r9, h9, k, l1, l2, hg⟩ := ih _ _ _ _ hg
      refine ⟨r9, h9, k, l1, l2, ?_⟩
      dsimp only [mm_one]
      exact ⟨x, s1, e1, e2, hg⟩
    | iadd =>
      obtain ⟨x, y, s1, e1, hg⟩ := hw
      obtain ⟨r9, h9, k, l1, l2, hg⟩ := ih _ _ _ _ hg
      refine ⟨r9, h9, k, l1, l2, ?_⟩
      dsimp only [mm_one]
      exact ⟨x, y, s1, e1, hg⟩
    | isub =>
      obtain ⟨x, y, s1, e1, hg⟩ := hw
      obtain ⟨r9, h9, k, l1, l2, hg⟩ := ih _ _ _ _ hg
      refine ⟨r9, h9, k, l1, l2, ?_⟩
      dsimp only [mm_one]
      exact ⟨x, y, s1, e1, hg⟩
    | imul =>
      obtain ⟨x, y, s1, e1, hg⟩ := hw
      obtain ⟨r9, h9, k, l1, l2, hg⟩ := ih _ _ _ _ hg
      refine ⟨r9, h9, k, l1, l2, ?_⟩
      dsimp only [mm_one]
      exact ⟨x, y, s1, e1, hg⟩
    | iand =>
      obtain ⟨x, y, s1, e1, hg⟩ := hw
      obtain ⟨r9, h9, k, l1, l2, hg⟩ := ih _ _ _ _ hg
      refine ⟨r9, h9, k, l1, l2, ?_⟩
      dsimp only [mm_one]
      exact ⟨x, y, s1, e1, hg⟩
    | ior =>
      obtain ⟨x, y, s1, e1, hg⟩ := hw
      obtain ⟨r9, h9, k, l1, l2, hg⟩ := ih _ _ _ _ hg
      refine ⟨r9, h9, k, l1, l2, ?_⟩
      dsimp only [mm_one]
      exact ⟨x, y, s1, e1, hg⟩
    | ixor =>
      obtain ⟨x, y, s1, e1, hg⟩ := hw
      obtain ⟨r9, h9, k, l1, l2, hg⟩ := ih _ _ _ _ hg
      refine ⟨r9, h9, k, l1, l2, ?_⟩
      dsimp only [mm_one]
      exact ⟨x, y, s1, e1, hg⟩
    | ishl =>
      obtain ⟨x, y, s1, e1, hg⟩ := hw
      obtain ⟨r9, h9, k, l1, l2, hg⟩ := ih _ _ _ _ hg
      refine ⟨r9, h9, k, l1, l2, ?_⟩
      dsimp only [mm_one]
      exact ⟨x, y, s1, e1, hg⟩
    | ishr =>
      obtain ⟨x, y, s1, e1, hg⟩ := hw
      obtain ⟨r9, h9, k, l1, l2, hg⟩ := ih _ _ _ _ hg
      refine ⟨r9, h9, k, l1, l2, ?_⟩
      dsimp only [mm_one]
      exact ⟨x, y, s1, e1, hg⟩
    | idiv =>
      obtain ⟨x, y, s1, e1, e2, hg⟩ := hw
      obtain ⟨r9, h9, k, l1, l2, hg⟩ := ih _ _ _ _ hg
      refine ⟨r9, h9, k, l1, l2, ?_⟩
      dsimp only [mm_one]
      exact ⟨x, y, s1, e1, e2, hg⟩
    | irem =>
      obtain ⟨x, y, s1, e1, e2, hg⟩ := hw
      obtain ⟨r9, h9, k, l1, l2, hg⟩ := ih _ _ _ _ hg
      refine ⟨r9, h9, k, l1, l2, ?_⟩
      dsimp only [mm_one]
      exact ⟨x, y, s1, e1, e2, hg⟩
    | ineg =>
      obtain ⟨x, s1, e1, hg⟩ := hw
      obtain ⟨r9, h9, k, l1, l2, hg⟩ := ih _ _ _ _ hg
      refine ⟨r9, h9, k, l1, l2, ?_⟩
      dsimp only [mm_one]
      exact ⟨x, s1, e1, hg⟩
    | dup =>
      obtain ⟨x, s1, e1, hg⟩ := hw
      obtain ⟨r9, h9, k, l1, l2, hg⟩ := ih _ _ _ _ hg
      refine ⟨r9, h9, k, l1, l2, ?_⟩
      dsimp only [mm_one]
      exact ⟨x, s1, e1, hg⟩
    | pop =>
      obtain ⟨x, s1, e1, hg⟩ := hw
      obtain ⟨r9, h9, k, l1, l2, hg⟩ := ih _ _ _ _ hg
      refine ⟨r9, h9, k, l1, l2, ?_⟩
      dsimp only [mm_one]
      exact ⟨x, s1, e1, hg⟩
    | dup2 =>
      obtain ⟨x, y, s1, e1, hg⟩ := hw
      obtain ⟨r9, h9, k, l1, l2, hg⟩ := ih _ _ _ _ hg
      refine ⟨r9, h9, k, l1, l2, ?_⟩
      dsimp only [mm_one]
      exact ⟨x, y, s1, e1, hg⟩
    | getstatic v =>
      obtain ⟨e1, hg⟩ := hw
      obtain ⟨r9, h9, k, l1, l2, hg⟩ := ih _ _ _ _ hg
      refine ⟨r9, h9, k, l1, l2, ?_⟩
      dsimp only [mm_one]
      exact ⟨e1, hg⟩
    | getfield v =>
      obtain ⟨x1, x2, x3, s1, e1, e2, e3, hg⟩ := hw
      obtain ⟨r9, h9, k, l1, l2, hg⟩ := ih _ _ _ _ hg
      refine ⟨r9, h9, k, l1, l2, ?_⟩
      dsimp only [mm_one]
      exact ⟨x1, x2, x3, s1, e1, e2, e3, hg⟩
    | baload =>
      obtain ⟨x1, x2, s1, x3, e1, e2, e3, hg⟩ := hw
      obtain ⟨r9, h9, k, l1, l2, hg⟩ := ih _ _ _ _ hg
      refine ⟨r9, h9, k, l1, l2, ?_⟩
      dsimp only [mm_one]
      exact ⟨x1, x2, s1, x3, e1, e2, e3, hg⟩
    | aaload =>
      obtain ⟨x1, x2, s1, x3, x4, e1, e2, e3, hg⟩ := hw
      obtain ⟨r9, h9, k, l1, l2, hg⟩ := ih _ _ _ _ hg
      refine ⟨r9, h9, k, l1, l2, ?_⟩
      dsimp only [mm_one]
      exact ⟨x1, x2, s1, x3, x4, e1, e2, e3, hg⟩
    | ifCond q v =>
      obtain ⟨x, s1, e1, g1, g2⟩ := hw
      by_cases hq : mm_if q x
      · obtain ⟨r9, h9, k, l1, l2, hg⟩ := ih _ _ _ _ (g1 hq)
        refine ⟨r9, h9, k, l1, l2, ?_⟩
        dsimp only [mm_one]
        exact ⟨x, s1, e1, fun _ => hg, fun z => absurd hq z⟩
      · obtain ⟨r9, h9, k, l1, l2, hg⟩ := ih _ _ _ _ (g2 hq)
        refine ⟨r9, h9, k, l1, l2, ?_⟩
        dsimp only [mm_one]
        exact ⟨x, s1, e1, fun z => absurd z hq, fun _ => hg⟩
    | if_icmp q v =>
      obtain ⟨x, y, s1, e1, g1, g2⟩ := hw
      by_cases hq : mm_ic q x y
      · obtain ⟨r9, h9, k, l1, l2, hg⟩ := ih _ _ _ _ (g1 hq)
        refine ⟨r9, h9, k, l1, l2, ?_⟩
        dsimp only [mm_one]
        exact ⟨x, y, s1, e1, fun _ => hg, fun z => absurd hq z⟩
      · obtain ⟨r9, h9, k, l1, l2, hg⟩ := ih _ _ _ _ (g2 hq)
        refine ⟨r9, h9, k, l1, l2, ?_⟩
        dsimp only [mm_one]
        exact ⟨x, y, s1, e1, fun z => absurd z hq, fun _ => hg⟩
    | tableswitch dd lo hi offs =>
      obtain ⟨x, s1, e1, g1, g2⟩ := hw
      by_cases hq : x.toInt < lo ∨ hi < x.toInt
      · obtain ⟨t, e2, g⟩ := g1 hq
        obtain ⟨r9, h9, k, l1, l2, hg⟩ := ih _ _ _ _ g
        refine ⟨r9, h9, k, l1, l2, ?_⟩
        dsimp only [mm_one]
        exact ⟨x, s1, e1, fun _ => ⟨t, e2, hg⟩, fun z => absurd hq z⟩
      · obtain ⟨o, t, e2, e3, g⟩ := g2 hq
        obtain ⟨r9, h9, k, l1, l2, hg⟩ := ih _ _ _ _ g
        refine ⟨r9, h9, k, l1, l2, ?_⟩
        dsimp only [mm_one]
        exact ⟨x, s1, e1, fun z => absurd z hq, fun _ => ⟨o, t, e2, e3, hg⟩⟩
    | iaload =>
      obtain ⟨i, r, s1, e1, ⟨e2, e3, g⟩ | ⟨q, xs, e2, e3, e4, g⟩⟩ := hw
      · obtain ⟨r9, h9, k, l1, l2, hg⟩ := ih _ _ _ _ g
        refine ⟨r9, h9, k, l1, l2, ?_⟩
        dsimp only [mm_one]
        exact ⟨i, r, s1, e1, Or.inl ⟨e2, e3, hg⟩⟩
      · obtain ⟨r9, h9, k, l1, l2, hg⟩ := ih _ _ _ _ g
        refine ⟨r9, h9, k, l1, l2, ?_⟩
        dsimp only [mm_one]
        exact ⟨i, r, s1, e1, Or.inr ⟨q, xs, e2, e3, e4, hg⟩⟩
    | arraylength =>
      obtain ⟨r, s1, e1, ⟨e2, g⟩ | ⟨q, xs, e2, e3, g⟩⟩ := hw
      · obtain ⟨r9, h9, k, l1, l2, hg⟩ := ih _ _ _ _ g
        refine ⟨r9, h9, k, l1, l2, ?_⟩
        dsimp only [mm_one]
        exact ⟨r, s1, e1, Or.inl ⟨e2, hg⟩⟩
      · obtain ⟨r9, h9, k, l1, l2, hg⟩ := ih _ _ _ _ g
        refine ⟨r9, h9, k, l1, l2, ?_⟩
        dsimp only [mm_one]
        exact ⟨r, s1, e1, Or.inr ⟨q, xs, e2, e3, hg⟩⟩
    | putfield v =>
      obtain ⟨x1, x2, x3, s1, e1, e2, e3, e4, hg⟩ := hw
      obtain ⟨r9, h9, k, l1, l2, hg⟩ := ih _ _ _ _ hg
      rw [List.length_set] at l1
      rw [mm_sset e2 (by simp [mm_csz])] at l2
      refine ⟨r9, h9, k, l1, l2, ?_⟩
      dsimp only [mm_one]
      exact ⟨x1, x2, x3, s1, e1, e2, e3, e4, hg⟩
    | iastore =>
      obtain ⟨x1, x2, x3, s1, x4, e1, e2, e3, hg⟩ := hw
      obtain ⟨r9, h9, k, l1, l2, hg⟩ := ih _ _ _ _ hg
      rw [List.length_set] at l1
      rw [mm_sset e2 (by simp [mm_csz])] at l2
      refine ⟨r9, h9, k, l1, l2, ?_⟩
      dsimp only [mm_one]
      exact ⟨x1, x2, x3, s1, x4, e1, e2, e3, hg⟩
    | bastore =>
      obtain ⟨x1, x2, x3, s1, x4, e1, e2, e3, hg⟩ := hw
      obtain ⟨r9, h9, k, l1, l2, hg⟩ := ih _ _ _ _ hg
      rw [List.length_set] at l1
      rw [mm_sset e2 (by simp [mm_csz])] at l2
      refine ⟨r9, h9, k, l1, l2, ?_⟩
      dsimp only [mm_one]
      exact ⟨x1, x2, x3, s1, x4, e1, e2, e3, hg⟩
    | aastore =>
      obtain ⟨x1, x2, x3, s1, x4, x5, e1, e2, e3, e4, hg⟩ := hw
      obtain ⟨r9, h9, k, l1, l2, hg⟩ := ih _ _ _ _ hg
      rw [List.length_set] at l1
      rw [mm_sset e2 (by simp [mm_csz])] at l2
      refine ⟨r9, h9, k, l1, l2, ?_⟩
      dsimp only [mm_one]
      exact ⟨x1, x2, x3, s1, x4, x5, e1, e2, e3, e4, hg⟩
    | new v =>
      obtain ⟨e1, e2, hg⟩ := hw
      obtain ⟨r9, h9, k, l1, l2, hg⟩ := ih _ _ _ _ hg
      rw [List.length_append, List.length_singleton] at l1
      rw [mm_spush] at l2
      simp only [mm_csz, List.length_replicate] at l2
      refine ⟨r9, h9, k, by omega, by omega, ?_⟩
      dsimp only [mm_one]
      exact ⟨by omega, by omega, hg⟩
    | newarray v =>
      obtain ⟨x, s1, e1, e2, e3, e4, e5, e6, hg⟩ := hw
      obtain ⟨r9, h9, k, l1, l2, hg⟩ := ih _ _ _ _ hg
      rw [List.length_append, List.length_singleton] at l1
      rw [mm_spush] at l2
      simp only [mm_csz, List.length_replicate] at l2
      refine ⟨r9, h9, k, by omega, by omega, ?_⟩
      dsimp only [mm_one]
      exact ⟨x, s1, e1, e2, e3, e4, by omega, by omega, hg⟩
    | anewarray v =>
      obtain ⟨x, s1, e1, e3, e4, e5, e6, hg⟩ := hw
      obtain ⟨r9, h9, k, l1, l2, hg⟩ := ih _ _ _ _ hg
      rw [List.length_append, List.length_singleton] at l1
      rw [mm_spush] at l2
      simp only [mm_csz, List.length_replicate] at l2
      refine ⟨r9, h9, k, by omega, by omega, ?_⟩
      dsimp only [mm_one]
      exact ⟨x, s1, e1, e3, e4, by omega, by omega, hg⟩
    | multianewarray v w =>
      obtain ⟨x, y, s1, e1, e2, e3, e4, e5, e6, e7, hg⟩ := hw
      obtain ⟨r9, h9, k, l1, l2, hg⟩ := ih _ _ _ _ hg
      rw [List.length_append] at l1
      rw [mm_srows] at l2
      simp [mm_rows] at l1
      refine ⟨r9, h9, k, by omega, by omega, ?_⟩
      dsimp only [mm_one]
      exact ⟨x, y, s1, e1, e2, e3, e4, e5, by omega, by omega, hg⟩
    | invokevirtual v =>
      obtain ⟨as, r, s1, fs, ci, rv, h1, e1, e2, e3, e4, e5, e6, e7, e8, e9, e10, hg⟩ := hw
      obtain ⟨r9, h9, k, l1, l2, hg⟩ := ih _ _ _ _ hg
      refine ⟨r9, h9, k, by omega, by omega, ?_⟩
      dsimp only [mm_one]
      exact ⟨as, r, s1, fs, ci, rv, h1, e1, e2, e3, e4, e5, e6, e7, e8, l1, l2, hg⟩
    | invokestatic v =>
      dsimp only [mm_one] at hw ⊢
      split at hw
      · obtain ⟨x, s1, e1, e2, e3, e4, hg⟩ := hw
        obtain ⟨r9, h9, k, l1, l2, hg⟩ := ih _ _ _ _ hg
        exact ⟨r9, h9, k, l1, l2, x, s1, e1, e2, l1, l2, hg⟩
      · obtain ⟨x, y, s1, e1, e2, e3, e4, hg⟩ := hw
        obtain ⟨r9, h9, k, l1, l2, hg⟩ := ih _ _ _ _ hg
        exact ⟨r9, h9, k, l1, l2, x, y, s1, e1, e2, l1, l2, hg⟩
      · obtain ⟨x, y, s1, e1, e2, e3, e4, hg⟩ := hw
        obtain ⟨r9, h9, k, l1, l2, hg⟩ := ih _ _ _ _ hg
        exact ⟨r9, h9, k, l1, l2, x, y, s1, e1, e2, l1, l2, hg⟩
      · obtain ⟨as, s1, rv, h1, e1, e2, e3, e6, e7, e8, e9, e10, hg⟩ := hw
        obtain ⟨r9, h9, k, l1, l2, hg⟩ := ih _ _ _ _ hg
        exact ⟨r9, h9, k, by omega, by omega, as, s1, rv, h1, e1, e2, e3, e6, e7, e8, l1, l2, hg⟩
    | invokespecial v =>
      dsimp only [mm_one] at hw ⊢
      split at hw
      · obtain ⟨r, s1, e1, e2, hg⟩ := hw
        obtain ⟨r9, h9, k, l1, l2, hg⟩ := ih _ _ _ _ hg
        exact ⟨r9, h9, k, l1, l2, r, s1, e1, e2, hg⟩
      · obtain ⟨as, r, s1, h1, e1, e2, e3, e6, e7, e8, e9, e10, hg⟩ := hw
        obtain ⟨r9, h9, k, l1, l2, hg⟩ := ih _ _ _ _ hg
        exact ⟨r9, h9, k, by omega, by omega, as, r, s1, h1, e1, e2, e3, e6, e7, e8, l1, l2, hg⟩
    | ireturn =>
      obtain ⟨v, e1, e2, k⟩ := hw
      refine ⟨_, _, k, Nat.le_refl _, Nat.le_refl _, ?_⟩
      dsimp only [mm_one]
      exact ⟨v, e1, e2, rfl, rfl⟩
    | return_ =>
      obtain ⟨e1, e2, k⟩ := hw
      refine ⟨_, _, k, Nat.le_refl _, Nat.le_refl _, ?_⟩
      dsimp only [mm_one]
      exact ⟨e1, e2, rfl, rfl⟩
    | _ => exact False.elim hw
/-- a method's run gives a call -/
theorem mm_ev {mt : List mm_M} {d y : Nat} {M : mm_M} {as : List mm_V} {h : mm_H} {hl hs n : Nat} {K : Option Int32 → mm_H → Prop} (hM : mt[y]? = some M) (hn : as.length ≤ mm_ml M) (hw : mm_wp ro (mm_EvT mt ro d) (mm_mr M) (mm_mk M) hl hs K n 0 (mm_ent M as) [] h) : ∃ r h', K r h' ∧ mm_EvT mt ro (d + 1) y as h r h' := by
  obtain ⟨r, h', k, -, -, hg⟩ := mm_out _ _ _ _ _ hw
  exact ⟨r, h', k, M, hM, hn, n, hg⟩
end MO
end
section
/-! Behind both constructors: the heap's shape is fixed; what changes is numbers. S q k: the number at place k of the cell q. -/
abbrev qq_C : Type := (Nat × List (Option Nat)) ⊕ ((Bool × Nat) ⊕ (Bool × List Nat))
abbrev qq_S : Type := Nat → Nat → Int
abbrev qq_V : Type := Int ⊕ (Nat × Option Nat)
abbrev qq_L : Type := List (Option qq_V)
def qq_sh : List qq_C := [.inl (7, [some 4, some 48, some 52, some 53, some 54, some 55, some 94, some 101, some 114, none]), .inl (2, [none, none, none, some 5, some 6, some 7, some 8, some 15, some 22, some 23, some 24, some 25, some 26, some 37]), .inr (.inl (false, 10)), .inr (.inl (false, 10)), .inr (.inl (false, 6)), .inr (.inr (false, [9, 10, 11, 12, 13, 14])), .inr (.inl (false, 10)), .inr (.inl (false, 10)), .inr (.inl (false, 10)), .inr (.inl (false, 10)), .inr (.inl (false, 10)), .inr (.inl (false, 10)), .inr (.inr (false, [16, 17, 18, 19, 20, 21])), .inr (.inl (false, 10)), .inr (.inl (false, 10)), .inr (.inl (false, 10)), .inr (.inl (false, 10)), .inr (.inl (false, 10)), .inr (.inl (false, 10)), .inr (.inl (false, 45)), .inr (.inl (false, 45)), .inr (.inl (false, 45)), .inr (.inl (false, 10)), .inr (.inr (false, [27, 28, 29, 30, 31, 32, 33, 34, 35, 36])), .inr (.inl (false, 10)), .inr (.inl (false, 10)), .inr (.inl (false, 10)), .inr (.inl (false, 10)), .inr (.inl (false, 10)), .inr (.inl (false, 10)), .inr (.inl (false, 10)), .inr (.inl (false, 10)), .inr (.inl (false, 10)), .inr (.inl (false, 10)), .inr (.inr (false, [38, 39, 40, 41, 42, 43, 44, 45, 46, 47])), .inr (.inl (false, 10)), .inr (.inl (false, 10)), .inr (.inl (false, 10)), .inr (.inl (false, 10)), .inr (.inl (false, 10)), .inr (.inl (false, 10)), .inr (.inl (false, 10)), .inr (.inl (false, 10)), .inr (.inl (false, 10)), .inr (.inl (false, 10)), .inl (3, [none, none, some 49, some 50, some 51]), .inr (.inl (false, 10)), .inr (.inl (false, 10)), .inr (.inl (true, 10)), .inl (6, [none, none, none, none]), .inl (0, [some 4, some 48, some 52, none, none, none]), .inl (4, [some 4, some 48, some 52]), .inl (5, [some 4, some 52, some 56, some 92, some 93, some 60, some 61, some 87, some 88, some 89, some 90, some 91, none, none, none]), .inl (3, [none, none, some 57, some 58, some 59]), .inr (.inl (false, 10)), .inr (.inl (false, 10)), .inr (.inl (true, 10)), .inr (.inl (false, 25)), .inr (.inr (false, [62, 63, 64, 65, 66, 67, 68, 69, 70, 71, 72, 73, 74, 75, 76, 77, 78, 79, 80, 81, 82, 83, 84, 85, 86])), .inr (.inl (false, 25)), .inr (.inl (false, 25)), .inr (.inl (false, 25)), .inr (.inl (false, 25)), .inr (.inl (false, 25)), .inr (.inl (false, 25)), .inr (.inl (false, 25)), .inr (.inl (false, 25)), .inr (.inl (false, 25)), .inr (.inl (false, 25)), .inr (.inl (false, 25)), .inr (.inl (false, 25)), .inr (.inl (false, 25)), .inr (.inl (false, 25)), .inr (.inl (false, 25)), .inr (.inl (false, 25)), .inr (.inl (false, 25)), .inr (.inl (false, 25)), .inr (.inl (false, 25)), .inr (.inl (false, 25)), .inr (.inl (false, 25)), .inr (.inl (false, 25)), .inr (.inl (false, 25)), .inr (.inl (false, 25)), .inr (.inl (false, 25)), .inr (.inl (false, 10)), .inr (.inl (false, 10)), .inr (.inl (false, 10)), .inr (.inl (true, 10)), .inr (.inl (false, 11)), .inl (0, [some 4, some 56, some 52, none, none, none]), .inl (4, [some 4, some 56, some 52]), .inl (1, [some 4, some 48, some 95, some 96, some 97, some 98, some 99, some 100]), .inr (.inl (false, 10)), .inr (.inl (false, 10)), .inr (.inl (false, 10)), .inr (.inl (false, 10)), .inr (.inl (false, 10)), .inr (.inl (false, 10)), .inr (.inr (true, [102, 106, 110])), .inl (3, [none, none, some 103, some 104, some 105]), .inr (.inl (false, 10)), .inr (.inl (false, 10)), .inr (.inl (true, 10)), .inl (3, [none, none, some 107, some 108, some 109]), .inr (.inl (false, 10)), .inr (.inl (false, 10)), .inr (.inl (true, 10)), .inl (3, [none, none, some 111, some 112, some 113]), .inr (.inl (false, 10)), .inr (.inl (false, 10)), .inr (.inl (true, 10)), .inr (.inl (true, 3)), .inl (8, [none, none, none, none, some 116, some 117, some 118, some 119, some 120, some 121, some 122, none, none, none, none, none, none, none, some 123, some 124, some 125, none, none, some 126, some 127, some 128, none, some 129, some 130, some 131, some 132, some 133]), .inr (.inl (false, 10)), .inr (.inl (false, 10)), .inr (.inl (false, 6)), .inr (.inl (false, 60)), .inr (.inl (false, 45)), .inr (.inl (false, 45)), .inr (.inl (false, 10)), .inr (.inl (false, 10)), .inr (.inl (true, 10)), .inr (.inl (false, 10)), .inr (.inl (false, 10)), .inr (.inl (false, 10)), .inr (.inl (true, 10)), .inr (.inl (false, 10)), .inr (.inl (false, 10)), .inr (.inl (false, 10)), .inr (.inl (true, 3)), .inr (.inl (false, 69))]
def qq_at (q : Nat) : Option qq_C := if q < 3 then none else qq_sh[q - 3]?
def qq_row (q : Nat) : Option (Nat × Nat) := match q with
  | 8 => some (6, 10)
  | 15 => some (6, 10)
  | 26 => some (10, 10)
  | 37 => some (10, 10)
  | 61 => some (25, 25)
  | _ => none
def qq_fv (f : Nat → Int) (k : Nat) (o : Option Nat) : mm_V := match o with
  | none => .inl (Int32.ofInt (f k))
  | some q => .inr (some q)
def qq_fill (f : Nat → Int) : qq_C → mm_C
  | .inl o => .inl (o.1, o.2.mapIdx (qq_fv f))
  | .inr (.inl o) => .inr (.inl (o.1, (List.range o.2).map (fun k => Int32.ofInt (f k))))
  | .inr (.inr o) => .inr (.inr (o.1, o.2.map some))
def qq_e (S : qq_S) : mm_H := qq_sh.mapIdx (fun i c => qq_fill (S (i + 3)) c)
def qq_u (S : qq_S) (q k : Nat) (x : Int) : qq_S := fun a j => if a = q ∧ j = k then x else S a j
def qq_v : qq_V → mm_V
  | .inl x => .inl (Int32.ofInt x)
  | .inr (q, none) => .inr (some q)
  | .inr (q, some i) => .inr (some (q + 1 + i))
def qq_in (x : Int) : Prop := -2147483648 ≤ x ∧ x ≤ 2147483647
def qq_and (x y : Int) : Int := (Int32.ofInt x &&& Int32.ofInt y).toInt
def qq_or (x y : Int) : Int := (Int32.ofInt x ||| Int32.ofInt y).toInt
def qq_xor (x y : Int) : Int := (Int32.ofInt x ^^^ Int32.ofInt y).toInt
def qq_shl (x y : Int) : Int := (Int32.ofInt x <<< (Int32.ofInt y &&& 31)).toInt
def qq_shr (x y : Int) : Int := (Int32.ofInt x >>> (Int32.ofInt y &&& 31)).toInt
abbrev qq_K : Type := Option Int → qq_S → Prop
abbrev qq_G : Type := Nat → qq_L → List qq_V → qq_S → Prop
/-- what a callee asks, answers, leaves -/
abbrev qq_P : Type := Nat → List qq_V → qq_S → Option (Prop × Option Int × qq_S)
def qq_tab (G : qq_G) (pc : Nat) (ls : qq_L) (st : List qq_V) (S : qq_S) (x : Int) : Int → List Int → Prop
  | _, [] => True
  | lo, o :: os => (x = lo → G ((pc : Int) + o).toNat ls st S) ∧ qq_tab G pc ls st S x (lo + 1) os
def qq_pl (G : qq_G) (pc : Nat) (ls : qq_L) (st : List qq_V) (S : qq_S) (x : Int) : Int → List Nat → Prop
  | _, [] => True
  | lo, q :: qs => (x = lo → G pc ls (.inr (q, none) :: st) S) ∧ qq_pl G pc ls st S x (lo + 1) qs
def qq_call (sp : qq_P) (G Z : qq_G) (pc y : Nat) (as s' : List qq_V) (ls : qq_L) (st : List qq_V) (S : qq_S) : Prop := match sp y as S with
  | some (pre, r, S') => pre ∧ G (pc + 3) ls ((r.map Sum.inl).toList ++ s') S'
  | none => Z pc ls st S
def qq_one (xs : List Int32) (sp : qq_P) (rt : Option FieldType) (K : qq_K) (G Z : qq_G) (pc : Nat) (i : Instr) (a b c : Nat) (ls : qq_L) (st : List qq_V) (S : qq_S) : Prop := match i with
  | .iconst v => G (pc + 1) ls (.inl v :: st) S
  | .bipush v => if -128 ≤ v ∧ v ≤ 127 then G (pc + 2) ls (.inl v :: st) S else False
  | .sipush v => if -32768 ≤ v ∧ v ≤ 32767 then G (pc + 3) ls (.inl v :: st) S else False
  | .ldc _ => G (pc + 2) ls (.inl (a : Int) :: st) S
  | .iload_n k => match ls[k.val]? with
    | some (some (.inl x)) => G (pc + 1) ls (.inl x :: st) S
    | _ => False
  | .iload k => match ls[k]? with
    | some (some (.inl x)) => G (pc + 2) ls (.inl x :: st) S
    | _ => False
  | .aload_n k => match ls[k.val]? with
    | some (some (.inr x)) => G (pc + 1) ls (.inr x :: st) S
    | _ => False
  | .istore_n k => match st with
    | .inl x :: s' => if k.val < ls.length then G (pc + 1) (ls.set k.val (some (.inl x))) s' S else False
    | _ => False
  | .istore k => match st with
    | .inl x :: s' => if k < ls.length then G (pc + 2) (ls.set k (some (.inl x))) s' S else False
    | _ => False
  | .astore_n k => match st with
    | .inr x :: s' => if k.val < ls.length then G (pc + 1) (ls.set k.val (some (.inr x))) s' S else False
    | _ => False
  | .iinc k v => match ls[k]? with
    | some (some (.inl x)) => G (pc + 3) (ls.set k (some (.inl (x + v)))) st S
    | _ => False
  | .iadd => match st with
    | .inl y :: .inl x :: s' => G (pc + 1) ls (.inl (x + y) :: s') S
    | _ => False
  | .isub => match st with
    | .inl y :: .inl x :: s' => G (pc + 1) ls (.inl (x - y) :: s') S
    | _ => False
  | .imul => match st with
    | .inl y :: .inl x :: s' => G (pc + 1) ls (.inl (x * y) :: s') S
    | _ => False
  | .iand => match st with
    | .inl y :: .inl x :: s' => G (pc + 1) ls (.inl (qq_and x y) :: s') S
    | _ => False
  | .ior => match st with
    | .inl y :: .inl x :: s' => G (pc + 1) ls (.inl (qq_or x y) :: s') S
    | _ => False
  | .ixor => match st with
    | .inl y :: .inl x :: s' => G (pc + 1) ls (.inl (qq_xor x y) :: s') S
    | _ => False
  | .ishl => match st with
    | .inl y :: .inl x :: s' => G (pc + 1) ls (.inl (qq_shl x y) :: s') S
    | _ => False
  | .ishr => match st with
    | .inl y :: .inl x :: s' => G (pc + 1) ls (.inl (qq_shr x y) :: s') S
    | _ => False
  | .idiv => match st with
    | .inl y :: .inl x :: s' => (0 ≤ x ∧ 0 < y ∧ x ≤ 2147483647 ∧ y ≤ 2147483647) ∧ G (pc + 1) ls (.inl (x / y) :: s') S
    | _ => False
  | .irem => match st with
    | .inl y :: .inl x :: s' => (0 ≤ x ∧ 0 < y ∧ x ≤ 2147483647 ∧ y ≤ 2147483647) ∧ G (pc + 1) ls (.inl (x % y) :: s') S
    | _ => False
  | .ineg => match st with
    | .inl x :: s' => G (pc + 1) ls (.inl (-x) :: s') S
    | _ => False
  | .dup => match st with
    | v :: s' => G (pc + 1) ls (v :: v :: s') S
    | _ => False
  | .pop => match st with
    | _ :: s' => G (pc + 1) ls s' S
    | _ => False
  | .dup2 => match st with
    | v :: w :: s' => G (pc + 1) ls (v :: w :: v :: w :: s') S
    | _ => False
  | .ifCond q _ => match st with
    | .inl x :: s' => qq_in x ∧ (match q with
      | .eq => (x = 0 → G a ls s' S) ∧ (¬ x = 0 → G (pc + 3) ls s' S)
      | .ne => (¬ x = 0 → G a ls s' S) ∧ (x = 0 → G (pc + 3) ls s' S)
      | .lt => (x < 0 → G a ls s' S) ∧ (¬ x < 0 → G (pc + 3) ls s' S)
      | .ge => (0 ≤ x → G a ls s' S) ∧ (¬ 0 ≤ x → G (pc + 3) ls s' S)
      | .gt => (0 < x → G a ls s' S) ∧ (¬ 0 < x → G (pc + 3) ls s' S)
      | .le => (x ≤ 0 → G a ls s' S) ∧ (¬ x ≤ 0 → G (pc + 3) ls s' S))
    | _ => False
  | .if_icmp q _ => match st with
    | .inl y :: .inl x :: s' => (qq_in x ∧ qq_in y) ∧ (match q with
      | .eq => (x = y → G a ls s' S) ∧ (¬ x = y → G (pc + 3) ls s' S)
      | .ne => (¬ x = y → G a ls s' S) ∧ (x = y → G (pc + 3) ls s' S)
      | .lt => (x < y → G a ls s' S) ∧ (¬ x < y → G (pc + 3) ls s' S)
      | .ge => (y ≤ x → G a ls s' S) ∧ (¬ y ≤ x → G (pc + 3) ls s' S)
      | .gt => (y < x → G a ls s' S) ∧ (¬ y < x → G (pc + 3) ls s' S)
      | .le => (x ≤ y → G a ls s' S) ∧ (¬ x ≤ y → G (pc + 3) ls s' S))
    | _ => False
  | .goto _ => G a ls st S
  | .tableswitch d lo hi offs => match st with
    | .inl x :: s' => qq_in x ∧ (x < lo ∨ hi < x → G ((pc : Int) + d).toNat ls s' S) ∧ (if hi - lo + 1 = offs.size ∧ (offs.toList.all (fun o => decide (0 ≤ (pc : Int) + o)) = true ∧ 0 ≤ (pc : Int) + d) then qq_tab G pc ls s' S x lo offs.toList else False)
    | _ => False
  | .getfield _ => match st with
    | .inr (q, none) :: s' => match qq_at q with
      | some (.inl (ci, fs)) => if ci = a then (match fs[b]? with
        | some none => G (pc + 3) ls (.inl (S q b) :: s') S
        | some (some r) => G (pc + 3) ls (.inr (r, none) :: s') S
        | none => False) else False
      | _ => False
    | _ => False
  | .putfield _ => match st with
    | .inl x :: .inr (q, none) :: s' => match qq_at q with
      | some (.inl (ci, fs)) => if ci = a then (match fs[b]? with
        | some none => (match c with
          | 0 => G (pc + 3) ls s' (qq_u S q b x)
          | 1 => (x = 0 ∨ x = 1) ∧ G (pc + 3) ls s' (qq_u S q b x)
          | _ => False)
        | _ => False) else False
      | _ => False
    | _ => False
  | .getstatic _ => if a = 1 ∨ a = 2 then G (pc + 3) ls (.inr (a, none) :: st) S else False
  | .iaload => match st with
    | .inl i :: .inr (q, none) :: s' => if q < 3 then ((0 ≤ i ∧ i < (mm_ro xs q).length) ∧ G (pc + 1) ls (.inl ((mm_ro xs q).getD i.toNat 0).toInt :: s') S) else (match qq_at q with
      | some (.inr (.inl (false, n))) => (0 ≤ i ∧ i < n) ∧ G (pc + 1) ls (.inl (S q i.toNat) :: s') S
      | _ => False)
    | .inl i :: .inr (q, some j) :: s' => (match qq_row q with
      | some (nr, k) => (j < nr ∧ 0 ≤ i ∧ i < k) ∧ G (pc + 1) ls (.inl (S (q + 1 + j) i.toNat) :: s') S
      | _ => False)
    | _ => False
  | .baload => match st with
    | .inl i :: .inr (q, none) :: s' => (match qq_at q with
      | some (.inr (.inl (true, n))) => (0 ≤ i ∧ i < n) ∧ G (pc + 1) ls (.inl (S q i.toNat) :: s') S
      | _ => False)
    | _ => False
  | .iastore => match st with
    | .inl x :: .inl i :: .inr (q, none) :: s' => (match qq_at q with
      | some (.inr (.inl (false, n))) => (0 ≤ i ∧ i < n) ∧ G (pc + 1) ls s' (qq_u S q i.toNat x)
      | _ => False)
    | .inl x :: .inl i :: .inr (q, some j) :: s' => (match qq_row q with
      | some (nr, k) => (j < nr ∧ 0 ≤ i ∧ i < k) ∧ G (pc + 1) ls s' (qq_u S (q + 1 + j) i.toNat x)
      | _ => False)
    | _ => False
  | .bastore => match st with
    | .inl x :: .inl i :: .inr (q, none) :: s' => (match qq_at q with
      | some (.inr (.inl (true, n))) => (0 ≤ i ∧ i < n ∧ (x = 0 ∨ x = 1)) ∧ G (pc + 1) ls s' (qq_u S q i.toNat x)
      | _ => False)
    | _ => False
  | .aaload => match st with
    | .inl i :: .inr (q, none) :: s' => (match qq_row q with
      | some (nr, _) => (0 ≤ i ∧ i < nr) ∧ G (pc + 1) ls (.inr (q, some i.toNat) :: s') S
      | none => (match qq_at q with
        | some (.inr (.inr (true, rs))) => (0 ≤ i ∧ i < rs.length) ∧ qq_pl G (pc + 1) ls s' S i 0 rs
        | _ => False))
    | _ => False
  | .arraylength => match st with
    | .inr (q, none) :: s' => if q < 3 then G (pc + 1) ls (.inl ((mm_ro xs q).length : Int) :: s') S else (match qq_at q with
      | some (.inr (.inl (false, n))) => G (pc + 1) ls (.inl (n : Int) :: s') S
      | _ => False)
    | _ => False
  | .invokevirtual _ => match st.drop b with
    | .inr (q, none) :: s' => (match qq_at q with
      | some (.inl (ci, _)) => if ci = c ∧ s'.length ≤ 8 then qq_call sp G Z pc a (.inr (q, none) :: (st.take b).reverse) s' ls st S else False
      | _ => False)
    | _ => False
  | .invokestatic _ => match c with
    | 10 => (match st with
      | .inl x :: s' => if s'.length ≤ 8 then (-2147483647 ≤ x ∧ x ≤ 2147483647) ∧ G (pc + 3) ls (.inl (if 0 ≤ x then x else -x) :: s') S else False
      | _ => False)
    | 11 => (match st with
      | .inl y :: .inl x :: s' => if s'.length ≤ 8 then (qq_in x ∧ qq_in y) ∧ G (pc + 3) ls (.inl (if x < y then y else x) :: s') S else False
      | _ => False)
    | 12 => (match st with
      | .inl y :: .inl x :: s' => if s'.length ≤ 8 then (qq_in x ∧ qq_in y) ∧ G (pc + 3) ls (.inl (if y < x then y else x) :: s') S else False
      | _ => False)
    | _ => if b ≤ st.length ∧ (st.drop b).length ≤ 8 then qq_call sp G Z pc a (st.take b).reverse (st.drop b) ls st S else False
  | .ireturn => match st with
    | [.inl v] => (match rt with
      | some .int => K (some v) S
      | some .boolean => (v = 0 ∨ v = 1) ∧ K (some v) S
      | _ => False)
    | _ => False
  | .return_ => match st, rt with
    | [], none => K none S
    | _, _ => False
  | _ => False
/-- the walk: from pc on, until a stop, or a call of which nothing is known -/
def qq_w (xs : List Int32) (sp : qq_P) (rt : Option FieldType) (code : List mm_E) (stops : List Nat) (K : qq_K) (Z : qq_G) : Nat → qq_G
  | 0, pc, ls, st, S => Z pc ls st S
  | n + 1, pc, ls, st, S => if stops.contains pc then Z pc ls st S else match mm_at code pc with
    | some (_, i, _, a, b, c, _) => qq_one xs sp rt K (qq_w xs sp rt code stops K Z n) Z pc i a b c ls st S
    | none => False
/-- one instruction, then the walk -/
def qq_f (xs : List Int32) (sp : qq_P) (rt : Option FieldType) (code : List mm_E) (stops : List Nat) (K : qq_K) (Z : qq_G) (n : Nat) : qq_G := fun pc ls st S => match mm_at code pc with
    | some (_, i, _, a, b, c, _) => qq_one xs sp rt K (qq_w xs sp rt code stops K Z n) Z pc i a b c ls st S
    | none => False
/-- a run from pc on ends, with K -/
def qq_p (xs : List Int32) (d : Nat) (rt : Option FieldType) (code : List mm_E) (K : qq_K) : qq_G := fun pc ls st S => ∃ n, mm_wp (mm_ro xs) (mm_EvT mm_mt (mm_ro xs) d) rt code 600000 7302250 (fun r h => ∃ r2 S2, r = r2.map Int32.ofInt ∧ h = qq_e S2 ∧ K r2 S2) n pc (ls.map (Option.map qq_v)) (st.map qq_v) (qq_e S)
/-- a call -/
def qq_E (xs : List Int32) (d y : Nat) (as : List qq_V) (S : qq_S) (r : Option Int) (S' : qq_S) : Prop := mm_EvT mm_mt (mm_ro xs) d y (as.map qq_v) (qq_e S) (r.map Int32.ofInt) (qq_e S')
end
section
/-! numbers -/
theorem qq_ti {x : Int} (h : qq_in x) : (Int32.ofInt x).toInt = x := Int32.toInt_ofInt_of_le (by have := h.1; omega) (by have := h.2; omega)
theorem qq_inT (x : Int32) : qq_in x.toInt := by
  have h1 := Int32.le_toInt x
  have h2 := Int32.toInt_lt x
  unfold qq_in
  omega
theorem qq_ofT (x : Int32) : Int32.ofInt x.toInt = x := Int32.ofInt_toInt x
theorem qq_eqI {x y : Int} (hx : qq_in x) (hy : qq_in y) : Int32.ofInt x = Int32.ofInt y ↔ x = y := by
  constructor
  · intro h
    have := congrArg Int32.toInt h
    rwa [qq_ti hx, qq_ti hy] at this
  · intro h
    rw [h]
theorem qq_ltI {x y : Int} (hx : qq_in x) (hy : qq_in y) : Int32.ofInt x < Int32.ofInt y ↔ x < y := by
  rw [Int32.lt_iff_toInt_lt, qq_ti hx, qq_ti hy]
theorem qq_leI {x y : Int} (hx : qq_in x) (hy : qq_in y) : Int32.ofInt x ≤ Int32.ofInt y ↔ x ≤ y := by
  rw [Int32.le_iff_toInt_le, qq_ti hx, qq_ti hy]
theorem qq_in0 : qq_in 0 := by unfold qq_in; omega
theorem qq_of0 : Int32.ofInt 0 = 0 := rfl
theorem qq_nat {n : Nat} (h : n < 2 ^ 31) : Int32.ofInt (n : Int) = Int32.ofNat n := by
  have h1 : (Int32.ofInt (n : Int)).toInt = (Int32.ofNat n).toInt := by
    rw [qq_ti (by unfold qq_in; omega)]
    exact (nI_toInt h).symm
  exact Int32.toInt_inj.mp h1
theorem qq_vin {i : Int} {n : Nat} (h0 : 0 ≤ i) (h1 : i < n) (hn : n ≤ 2147483647) : vp_in (Int32.ofInt i) n ∧ (Int32.ofInt i).toNatClampNeg = i.toNat := by
  have hi : qq_in i := by unfold qq_in; omega
  refine ⟨vp_in_iff.mpr (by rw [qq_ti hi]; exact ⟨h0, h1⟩), ?_⟩
  show (Int32.ofInt i).toInt.toNat = _
  rw [qq_ti hi]
theorem qq_div {x y : Int} (h : 0 ≤ x ∧ 0 < y ∧ x ≤ 2147483647 ∧ y ≤ 2147483647) : Int32.ofInt x / Int32.ofInt y = Int32.ofInt (x / y) ∧ ¬ Int32.ofInt y = 0 ∧ Int32.ofInt x - Int32.ofInt x / Int32.ofInt y * Int32.ofInt y = Int32.ofInt (x % y) := by
  obtain ⟨a, rfl⟩ := Int.eq_ofNat_of_zero_le h.1
  obtain ⟨b, rfl⟩ := Int.eq_ofNat_of_zero_le (Int.le_of_lt h.2.1)
  have ha : a < 2 ^ 31 := by have := h.2.2.1; omega
  have hb : b < 2 ^ 31 := by have := h.2.2.2; omega
  have hb0 : 0 < b := by have := h.2.1; omega
  have hd : a / b < 2 ^ 31 := Nat.lt_of_le_of_lt (Nat.div_le_self a b) ha
  have hm : a % b < 2 ^ 31 := Nat.lt_of_le_of_lt (Nat.mod_le a b) ha
  rw [qq_nat ha, qq_nat hb, ← Int.natCast_ediv, ← Int.natCast_emod, qq_nat hd, qq_nat hm]
  exact ⟨pk_div ha hb0 hb, nI_ne0 hb0 hb, pk_rem ha hb0 hb⟩
/-! the shape -/
def qq_csz : qq_C → Nat
  | .inl o => o.2.length
  | .inr (.inl o) => o.2
  | .inr (.inr o) => o.2.length
theorem qq_len (S : qq_S) : (qq_e S).length = 131 := by
  rw [qq_e, List.length_mapIdx]
  rfl
theorem qq_fsz (f : Nat → Int) (c : qq_C) : mm_csz (qq_fill f c) = qq_csz c := by
  rcases c with o | o | o <;> simp [qq_fill, mm_csz, qq_csz]
theorem qq_size (S : qq_S) : mm_sz (qq_e S) = 1939 := by
  unfold mm_sz qq_e
  have e : (qq_sh.mapIdx (fun i c => qq_fill (S (i + 3)) c)).map mm_csz = qq_sh.map qq_csz := by
    refine List.ext_getElem? fun i => ?_
    rw [List.getElem?_map, List.getElem?_map, List.getElem?_mapIdx]
    cases qq_sh[i]? with
    | none => rfl
    | some c => exact congrArg some (qq_fsz _ c)
  rw [e]
  decide +kernel
theorem qq_get {q : Nat} {c : qq_C} (S : qq_S) (h : qq_at q = some c) : 3 ≤ q ∧ (qq_e S)[q - 3]? = some (qq_fill (S q) c) := by
  unfold qq_at at h
  split at h
  · cases h
  · have h3 : 3 ≤ q := by omega
    refine ⟨h3, ?_⟩
    rw [qq_e, List.getElem?_mapIdx, h]
    show some (qq_fill (S (q - 3 + 3)) c) = _
    rw [Nat.sub_add_cancel h3]
theorem qq_ueq {S : qq_S} {q k a : Nat} {x : Int} (h : a ≠ q) : qq_u S q k x a = S a := by
  funext j
  unfold qq_u
  rw [if_neg (fun z => h z.1)]
theorem qq_set {q k : Nat} {x : Int} {c : qq_C} {y : mm_C} {S : qq_S} (h : qq_at q = some c) (hy : y = qq_fill (qq_u S q k x q) c) : (qq_e S).set (q - 3) y = qq_e (qq_u S q k x) := by
  obtain ⟨h3, hg⟩ := qq_get (qq_u S q k x) h
  have hl : q - 3 < (qq_e S).length := by
    rw [qq_len]
    have := (List.getElem?_eq_some_iff.mp hg).1
    rwa [qq_len] at this
  refine List.ext_getElem? fun i => ?_
  rw [List.getElem?_set]
  by_cases hi : q - 3 = i
  · subst hi
    rw [if_pos rfl, if_pos hl, hg, hy]
  · rw [if_neg hi, qq_e, qq_e, List.getElem?_mapIdx, List.getElem?_mapIdx]
    cases qq_sh[i]? with
    | none => rfl
    | some c' =>
      show some (qq_fill (S (i + 3)) c') = some (qq_fill (qq_u S q k x (i + 3)) c')
      rw [qq_ueq (by omega)]
theorem qq_fset {f : Nat → Int} {fs : List (Option Nat)} {b : Nat} {x : Int} (g : Nat → Int) (hg : ∀ j, g j = if j = b then x else f j) (hb : fs[b]? = some none) : (fs.mapIdx (qq_fv f)).set b (.inl (Int32.ofInt x)) = fs.mapIdx (qq_fv g) := by
  have hbl := (List.getElem?_eq_some_iff.mp hb).1
  refine List.ext_getElem? fun i => ?_
  rw [List.getElem?_set, List.getElem?_mapIdx, List.length_mapIdx, List.getElem?_mapIdx]
  by_cases hi : b = i
  · subst hi
    rw [if_pos rfl, if_pos hbl, hb]
    simp [hg, qq_fv]
  · rw [if_neg hi]
    cases fs[i]? with
    | none => rfl
    | some o =>
      cases o with
      | none =>
        have hi2 : ¬ i = b := fun z => hi z.symm
        simp [hg, hi2, qq_fv]
      | some q => rfl
theorem qq_aset {f : Nat → Int} {n b : Nat} {x : Int} (g : Nat → Int) (hg : ∀ j, g j = if j = b then x else f j) : ((List.range n).map (fun k => Int32.ofInt (f k))).set b (Int32.ofInt x) = (List.range n).map (fun k => Int32.ofInt (g k)) := by
  refine List.ext_getElem? fun i => ?_
  rw [List.getElem?_set, List.getElem?_map, List.length_map, List.length_range, List.getElem?_map]
  by_cases hl : i < n
  · rw [List.getElem?_range hl]
    by_cases hi : b = i
    · subst hi
      rw [if_pos rfl, if_pos hl]
      simp [hg]
    · have hi2 : ¬ i = b := fun z => hi z.symm
      rw [if_neg hi]
      simp [hg, hi2]
  · rw [List.getElem?_eq_none (by rw [List.length_range]; omega)]
    by_cases hi : b = i
    · subst hi
      rw [if_pos rfl, if_neg hl]
      rfl
    · rw [if_neg hi]
      rfl
theorem qq_uself {S : qq_S} {q k : Nat} {x : Int} : ∀ j, qq_u S q k x q j = if j = k then x else S q j := by
  intro j
  unfold qq_u
  simp
def qq_isI (k : Nat) (o : Option qq_C) : Bool := match o with
  | some (.inr (.inl (z, n))) => !z && n == k
  | _ => false
theorem qq_isI_ok {k : Nat} {o : Option qq_C} (h : qq_isI k o = true) : o = some (.inr (.inl (false, k))) := by
  rcases o with _ | o | ⟨z, n⟩ | o
  · cases h
  · cases h
  · cases z with
    | true => cases h
    | false =>
      have : n = k := by simpa [qq_isI] using h
      rw [this]
  · cases h
theorem qq_rows {q n k : Nat} (h : qq_row q = some (n, k)) : 3 ≤ q ∧ k ≤ 25 ∧ n ≤ 25 ∧ (∃ rs : List Nat, qq_at q = some (.inr (.inr (false, rs))) ∧ rs.length = n ∧ ∀ j, j < n → rs[j]? = some (q + 1 + j)) ∧ ∀ j, j < n → qq_at (q + 1 + j) = some (.inr (.inl (false, k))) := by
  unfold qq_row at h
  split at h <;> cases h
  · exact ⟨by decide, by decide, by decide, ⟨_, rfl, rfl, by decide⟩, fun j hj => qq_isI_ok ((by decide : ∀ j, j < 6 → qq_isI 10 (qq_at (8 + 1 + j)) = true) j hj)⟩
  · exact ⟨by decide, by decide, by decide, ⟨_, rfl, rfl, by decide⟩, fun j hj => qq_isI_ok ((by decide : ∀ j, j < 6 → qq_isI 10 (qq_at (15 + 1 + j)) = true) j hj)⟩
  · exact ⟨by decide, by decide, by decide, ⟨_, rfl, rfl, by decide⟩, fun j hj => qq_isI_ok ((by decide : ∀ j, j < 10 → qq_isI 10 (qq_at (26 + 1 + j)) = true) j hj)⟩
  · exact ⟨by decide, by decide, by decide, ⟨_, rfl, rfl, by decide⟩, fun j hj => qq_isI_ok ((by decide : ∀ j, j < 10 → qq_isI 10 (qq_at (37 + 1 + j)) = true) j hj)⟩
  · exact ⟨by decide, by decide, by decide, ⟨_, rfl, rfl, by decide⟩, fun j hj => qq_isI_ok ((by decide : ∀ j, j < 25 → qq_isI 25 (qq_at (61 + 1 + j)) = true) j hj)⟩
theorem qq_small : ∀ q c, qq_at q = some c → qq_csz c ≤ 100 := by
  intro q c h
  unfold qq_at at h
  split at h
  · cases h
  · have h1 : ∀ c ∈ qq_sh, qq_csz c ≤ 100 := by decide +kernel
    exact h1 c (List.mem_of_getElem? h)
end
section
theorem qq_b8 {v : Int} (h : -128 ≤ v ∧ v ≤ 127) : (Int8.ofInt v).toInt32 = Int32.ofInt v := by
  have h1 : (Int8.ofInt v).toInt = v := Int8.toInt_ofInt_of_le (by omega) (by omega)
  refine Int32.toInt_inj.mp ?_
  rw [qq_ti (by unfold qq_in; omega), Int8.toInt_toInt32, h1]
theorem qq_b16 {v : Int} (h : -32768 ≤ v ∧ v ≤ 32767) : (Int16.ofInt v).toInt32 = Int32.ofInt v := by
  have h1 : (Int16.ofInt v).toInt = v := Int16.toInt_ofInt_of_le (by omega) (by omega)
  refine Int32.toInt_inj.mp ?_
  rw [qq_ti (by unfold qq_in; omega), Int16.toInt_toInt32, h1]
theorem qq_natc (a : Nat) : Int32.ofNat a = Int32.ofInt (a : Int) := (Int32.ofInt_eq_ofNat).symm
theorem qq_rd {n i : Nat} {f : Nat → Int} (h : i < n) : ((List.range n).map (fun k => Int32.ofInt (f k))).getD i 0 = Int32.ofInt (f i) := by
  rw [List.getD_eq_getElem?_getD, List.getElem?_map, List.getElem?_range h]
  rfl
theorem qq_rol {xs : List Int32} {q : Nat} (hxs : xs.length ≤ 2048) (h : q < 3) : (mm_ro xs q).length ≤ 2048 := by
  match q, h with
  | 0, _ => exact hxs
  | 1, _ => show ([1, 1, 0, -1, -1, -1, 0, 1] : List Int32).length ≤ 2048; decide
  | 2, _ => show ([0, 1, 1, 1, 0, -1, -1, -1] : List Int32).length ≤ 2048; decide
theorem qq_tabok {G : qq_G} {pc : Nat} {ls : qq_L} {st : List qq_V} {S : qq_S} {x : Int} : ∀ (os : List Int) (lo : Int), qq_tab G pc ls st S x lo os → lo ≤ x → x < lo + os.length → ∃ o, os[(x - lo).toNat]? = some o ∧ G ((pc : Int) + o).toNat ls st S
  | [], lo, _, h1, h2 => by simp at h2; omega
  | o :: os, lo, h, h1, h2 => by
    obtain ⟨ha, hb⟩ := h
    by_cases hx : x = lo
    · exact ⟨o, by rw [hx, Int.sub_self]; rfl, ha hx⟩
    · obtain ⟨o', ho, hg⟩ := qq_tabok os (lo + 1) hb (by omega) (by simp at h2; omega)
      refine ⟨o', ?_, hg⟩
      rw [show (x - lo).toNat = (x - (lo + 1)).toNat + 1 by omega]
      exact ho
theorem qq_plok {G : qq_G} {pc : Nat} {ls : qq_L} {st : List qq_V} {S : qq_S} {x : Int} : ∀ (os : List Nat) (lo : Int), qq_pl G pc ls st S x lo os → lo ≤ x → x < lo + os.length → ∃ o, os[(x - lo).toNat]? = some o ∧ G pc ls (.inr (o, none) :: st) S
  | [], lo, _, h1, h2 => by simp at h2; omega
  | o :: os, lo, h, h1, h2 => by
    obtain ⟨ha, hb⟩ := h
    by_cases hx : x = lo
    · exact ⟨o, by rw [hx, Int.sub_self]; rfl, ha hx⟩
    · obtain ⟨o', ho, hg⟩ := qq_plok os (lo + 1) hb (by omega) (by simp at h2; omega)
      refine ⟨o', ?_, hg⟩
      rw [show (x - lo).toNat = (x - (lo + 1)).toNat + 1 by omega]
      exact ho
/-- what callees are known by holds -/
def qq_ok (xs : List Int32) (d : Nat) (sp : qq_P) : Prop := ∀ y as S pre r S', sp y as S = some (pre, r, S') → pre → qq_E xs d y as S r S'
set_option maxHeartbeats 4000000 in
theorem qq_sound1 {xs : List Int32} (hxs : xs.length ≤ 2048) {d : Nat} {sp : qq_P} (hsp : qq_ok xs d sp) {rt : Option FieldType} {code : List mm_E} {K : qq_K} {G Z : qq_G} (hG : ∀ pc ls st S, G pc ls st S → qq_p xs d rt code K pc ls st S) (hZ : ∀ pc ls st S, Z pc ls st S → qq_p xs d rt code K pc ls st S) {pc len a b c w : Nat} {i : Instr} {ls : qq_L} {st : List qq_V} {S : qq_S} (hat : mm_at code pc = some (pc, i, len, a, b, c, w)) (hw : qq_one xs sp rt K G Z pc i a b c ls st S) : qq_p xs d rt code K pc ls st S := by
  cases i with
  | iconst v =>
    obtain ⟨n, hn⟩ := hG _ _ _ _ hw
    exact ⟨n + 1, _, _, _, _, _, _, hat, hn⟩
  | goto v =>
    obtain ⟨n, hn⟩ := hG _ _ _ _ hw
    exact ⟨n + 1, _, _, _, _, _, _, hat, hn⟩
  | bipush v =>
    dsimp only [qq_one] at hw
    split at hw
    · rename_i hv
      obtain ⟨n, hn⟩ := hG _ _ _ _ hw
      refine ⟨n + 1, _, _, _, _, _, _, hat, ?_⟩
      have e : (Int8.ofInt v).toInt32 = Int32.ofInt v := qq_b8 hv
      dsimp only [mm_one]
      rw [e]
      exact hn
    · exact hw.elim
  | sipush v =>
    dsimp only [qq_one] at hw
    split at hw
    · rename_i hv
      obtain ⟨n, hn⟩ := hG _ _ _ _ hw
      refine ⟨n + 1, _, _, _, _, _, _, hat, ?_⟩
      have e : (Int16.ofInt v).toInt32 = Int32.ofInt v := qq_b16 hv
      dsimp only [mm_one]
      rw [e]
      exact hn
    · exact hw.elim
  | ldc v =>
    obtain ⟨n, hn⟩ := hG _ _ _ _ hw
    refine ⟨n + 1, _, _, _, _, _, _, hat, ?_⟩
    have e : Int32.ofNat a = Int32.ofInt (a : Int) := qq_natc a
    dsimp only [mm_one]
    rw [e]
    exact hn
  | iload_n k =>
    dsimp only [qq_one] at hw
    split at hw
    · rename_i x hx
      obtain ⟨n, hn⟩ := hG _ _ _ _ hw
      exact ⟨n + 1, _, _, _, _, _, _, hat, Int32.ofInt x, by rw [List.getElem?_map, hx]; rfl, hn⟩
    · exact hw.elim
  | iload k =>
    dsimp only [qq_one] at hw
    split at hw
    · rename_i x hx
      obtain ⟨n, hn⟩ := hG _ _ _ _ hw
      exact ⟨n + 1, _, _, _, _, _, _, hat, Int32.ofInt x, by rw [List.getElem?_map, hx]; rfl, hn⟩
    · exact hw.elim
  | aload_n k =>
    dsimp only [qq_one] at hw
    split at hw
    · rename_i x hx
      obtain ⟨n, hn⟩ := hG _ _ _ _ hw
      obtain ⟨q, o⟩ := x
      cases o with
      | none => exact ⟨n + 1, _, _, _, _, _, _, hat, q, by rw [List.getElem?_map, hx]; rfl, hn⟩
      | some j => exact ⟨n + 1, _, _, _, _, _, _, hat, q + 1 + j, by rw [List.getElem?_map, hx]; rfl, hn⟩
    · exact hw.elim
  | istore_n k =>
    dsimp only [qq_one] at hw
    split at hw
    · rename_i x s1
      split at hw
      · rename_i hk
        obtain ⟨n, hn⟩ := hG _ _ _ _ hw
        rw [List.map_set] at hn
        exact ⟨n + 1, _, _, _, _, _, _, hat, Int32.ofInt x, s1.map qq_v, rfl, by rw [List.length_map]; exact hk, hn⟩
      · exact hw.elim
    · exact hw.elim
  | istore k =>
    dsimp only [qq_one] at hw
    split at hw
    · rename_i x s1
      split at hw
      · rename_i hk
        obtain ⟨n, hn⟩ := hG _ _ _ _ hw
        rw [List.map_set] at hn
        exact ⟨n + 1, _, _, _, _, _, _, hat, Int32.ofInt x, s1.map qq_v, rfl, by rw [List.length_map]; exact hk, hn⟩
      · exact hw.elim
    · exact hw.elim
  | astore_n k =>
    dsimp only [qq_one] at hw
    split at hw
    · rename_i x s1
      split at hw
      · rename_i hk
        obtain ⟨n, hn⟩ := hG _ _ _ _ hw
        rw [List.map_set] at hn
        obtain ⟨q, o⟩ := x
        cases o with
        | none => exact ⟨n + 1, _, _, _, _, _, _, hat, q, s1.map qq_v, rfl, by rw [List.length_map]; exact hk, hn⟩
        | some j => exact ⟨n + 1, _, _, _, _, _, _, hat, q + 1 + j, s1.map qq_v, rfl, by rw [List.length_map]; exact hk, hn⟩
      · exact hw.elim
    · exact hw.elim
  | iinc k v =>
    dsimp only [qq_one] at hw
    split at hw
    · rename_i x hx
      obtain ⟨n, hn⟩ := hG _ _ _ _ hw
      rw [List.map_set] at hn
      refine ⟨n + 1, _, _, _, _, _, _, hat, Int32.ofInt x, by rw [List.getElem?_map, hx]; rfl, ?_⟩
      rw [← Int32.ofInt_add]
      exact hn
    · exact hw.elim
  | iadd =>
    dsimp only [qq_one] at hw
    split at hw
    · rename_i y x s1
      obtain ⟨n, hn⟩ := hG _ _ _ _ hw
      refine ⟨n + 1, _, _, _, _, _, _, hat, Int32.ofInt x, Int32.ofInt y, s1.map qq_v, rfl, ?_⟩
      rw [← Int32.ofInt_add]
      exact hn
    · exact hw.elim
  | isub =>
    dsimp only [qq_one] at hw
    split at hw
    · rename_i y x s1
      obtain ⟨n, hn⟩ := hG _ _ _ _ hw
      refine ⟨n + 1, _, _, _, _, _, _, hat, Int32.ofInt x, Int32.ofInt y, s1.map qq_v, rfl, ?_⟩
      rw [← Int32.ofInt_sub]
      exact hn
    · exact hw.elim
  | imul =>
    dsimp only [qq_one] at hw
    split at hw
    · rename_i y x s1
      obtain ⟨n, hn⟩ := hG _ _ _ _ hw
      refine ⟨n + 1, _, _, _, _, _, _, hat, Int32.ofInt x, Int32.ofInt y, s1.map qq_v, rfl, ?_⟩
      rw [← Int32.ofInt_mul]
      exact hn
    · exact hw.elim
  | iand =>
    dsimp only [qq_one] at hw
    split at hw
    · rename_i y x s1
      obtain ⟨n, hn⟩ := hG _ _ _ _ hw
      refine ⟨n + 1, _, _, _, _, _, _, hat, Int32.ofInt x, Int32.ofInt y, s1.map qq_v, rfl, ?_⟩
      have hn2 := hn
      simp only [List.map_cons, qq_v, qq_and, qq_ofT] at hn2
      exact hn2
    · exact hw.elim
  | ior =>
    dsimp only [qq_one] at hw
    split at hw
    · rename_i y x s1
      obtain ⟨n, hn⟩ := hG _ _ _ _ hw
      refine ⟨n + 1, _, _, _, _, _, _, hat, Int32.ofInt x, Int32.ofInt y, s1.map qq_v, rfl, ?_⟩
      have hn2 := hn
      simp only [List.map_cons, qq_v, qq_or, qq_ofT] at hn2
      exact hn2
    · exact hw.elim
  | ixor =>
    dsimp only [qq_one] at hw
    split at hw
    · rename_i y x s1
      obtain ⟨n, hn⟩ := hG _ _ _ _ hw
      refine ⟨n + 1, _, _, _, _, _, _, hat, Int32.ofInt x, Int32.ofInt y, s1.map qq_v, rfl, ?_⟩
      have hn2 := hn
      simp only [List.map_cons, qq_v, qq_xor, qq_ofT] at hn2
      exact hn2
    · exact hw.elim
  | ishl =>
    dsimp only [qq_one] at hw
    split at hw
    · rename_i y x s1
      obtain ⟨n, hn⟩ := hG _ _ _ _ hw
      refine ⟨n + 1, _, _, _, _, _, _, hat, Int32.ofInt x, Int32.ofInt y, s1.map qq_v, rfl, ?_⟩
      have hn2 := hn
      simp only [List.map_cons, qq_v, qq_shl, qq_ofT] at hn2
      exact hn2
    · exact hw.elim
  | ishr =>
    dsimp only [qq_one] at hw
    split at hw
    · rename_i y x s1
      obtain ⟨n, hn⟩ := hG _ _ _ _ hw
      refine ⟨n + 1, _, _, _, _, _, _, hat, Int32.ofInt x, Int32.ofInt y, s1.map qq_v, rfl, ?_⟩
      have hn2 := hn
      simp only [List.map_cons, qq_v, qq_shr, qq_ofT] at hn2
      exact hn2
    · exact hw.elim
  | idiv =>
    dsimp only [qq_one] at hw
    split at hw
    · rename_i y x s1
      obtain ⟨hxy, hw⟩ := hw
      obtain ⟨n, hn⟩ := hG _ _ _ _ hw
      refine ⟨n + 1, _, _, _, _, _, _, hat, Int32.ofInt x, Int32.ofInt y, s1.map qq_v, rfl, (qq_div hxy).2.1, ?_⟩
      rw [(qq_div hxy).1]
      exact hn
    · exact hw.elim
  | irem =>
    dsimp only [qq_one] at hw
    split at hw
    · rename_i y x s1
      obtain ⟨hxy, hw⟩ := hw
      obtain ⟨n, hn⟩ := hG _ _ _ _ hw
      refine ⟨n + 1, _, _, _, _, _, _, hat, Int32.ofInt x, Int32.ofInt y, s1.map qq_v, rfl, (qq_div hxy).2.1, ?_⟩
      rw [(qq_div hxy).2.2]
      exact hn
    · exact hw.elim
  | ineg =>
    dsimp only [qq_one] at hw
    split at hw
    · rename_i x s1
      obtain ⟨n, hn⟩ := hG _ _ _ _ hw
      refine ⟨n + 1, _, _, _, _, _, _, hat, Int32.ofInt x, s1.map qq_v, rfl, ?_⟩
      rw [← Int32.ofInt_neg]
      exact hn
    · exact hw.elim
  | dup =>
    dsimp only [qq_one] at hw
    split at hw
    · rename_i v s1
      obtain ⟨n, hn⟩ := hG _ _ _ _ hw
      exact ⟨n + 1, _, _, _, _, _, _, hat, qq_v v, s1.map qq_v, rfl, hn⟩
    · exact hw.elim
  | pop =>
    dsimp only [qq_one] at hw
    split at hw
    · rename_i v s1
      obtain ⟨n, hn⟩ := hG _ _ _ _ hw
      exact ⟨n + 1, _, _, _, _, _, _, hat, qq_v v, s1.map qq_v, rfl, hn⟩
    · exact hw.elim
  | dup2 =>
    dsimp only [qq_one] at hw
    split at hw
    · rename_i v w1 s1
      obtain ⟨n, hn⟩ := hG _ _ _ _ hw
      exact ⟨n + 1, _, _, _, _, _, _, hat, qq_v v, qq_v w1, s1.map qq_v, rfl, hn⟩
    · exact hw.elim
  | ifCond q v =>
    dsimp only [qq_one] at hw
    split at hw
    · rename_i x s1
      obtain ⟨hin, hw⟩ := hw
      cases q with
      | eq =>
        have hiff := qq_eqI hin qq_in0
        by_cases hc : x = 0
        · obtain ⟨n, hn⟩ := hG _ _ _ _ (hw.1 hc)
          exact ⟨n + 1, _, _, _, _, _, _, hat, Int32.ofInt x, s1.map qq_v, rfl, fun _ => hn, fun z => absurd (hiff.mpr hc) z⟩
        · obtain ⟨n, hn⟩ := hG _ _ _ _ (hw.2 hc)
          exact ⟨n + 1, _, _, _, _, _, _, hat, Int32.ofInt x, s1.map qq_v, rfl, fun z => absurd (hiff.mp z) hc, fun _ => hn⟩
      | ne =>
        have hiff := not_congr (qq_eqI hin qq_in0)
        by_cases hc : ¬ x = 0
        · obtain ⟨n, hn⟩ := hG _ _ _ _ (hw.1 hc)
          exact ⟨n + 1, _, _, _, _, _, _, hat, Int32.ofInt x, s1.map qq_v, rfl, fun _ => hn, fun z => absurd (hiff.mpr hc) z⟩
        · obtain ⟨n, hn⟩ := hG _ _ _ _ (hw.2 (Classical.not_not.mp hc))
          exact ⟨n + 1, _, _, _, _, _, _, hat, Int32.ofInt x, s1.map qq_v, rfl, fun z => absurd (hiff.mp z) hc, fun _ => hn⟩
      | lt =>
        have hiff := qq_ltI hin qq_in0
        by_cases hc : x < 0
        · obtain ⟨n, hn⟩ := hG _ _ _ _ (hw.1 hc)
          exact ⟨n + 1, _, _, _, _, _, _, hat, Int32.ofInt x, s1.map qq_v, rfl, fun _ => hn, fun z => absurd (hiff.mpr hc) z⟩
        · obtain ⟨n, hn⟩ := hG _ _ _ _ (hw.2 hc)
          exact ⟨n + 1, _, _, _, _, _, _, hat, Int32.ofInt x, s1.map qq_v, rfl, fun z => absurd (hiff.mp z) hc, fun _ => hn⟩
      | ge =>
        have hiff := qq_leI qq_in0 hin
        by_cases hc : 0 ≤ x
        · obtain ⟨n, hn⟩ := hG _ _ _ _ (hw.1 hc)
          exact ⟨n + 1, _, _, _, _, _, _, hat, Int32.ofInt x, s1.map qq_v, rfl, fun _ => hn, fun z => absurd (hiff.mpr hc) z⟩
        · obtain ⟨n, hn⟩ := hG _ _ _ _ (hw.2 hc)
          exact ⟨n + 1, _, _, _, _, _, _, hat, Int32.ofInt x, s1.map qq_v, rfl, fun z => absurd (hiff.mp z) hc, fun _ => hn⟩
      | gt =>
        have hiff := qq_ltI qq_in0 hin
        by_cases hc : 0 < x
        · obtain ⟨n, hn⟩ := hG _ _ _ _ (hw.1 hc)
          exact ⟨n + 1, _, _, _, _, _, _, hat, Int32.ofInt x, s1.map qq_v, rfl, fun _ => hn, fun z => absurd (hiff.mpr hc) z⟩
        · obtain ⟨n, hn⟩ := hG _ _ _ _ (hw.2 hc)
          exact ⟨n + 1, _, _, _, _, _, _, hat, Int32.ofInt x, s1.map qq_v, rfl, fun z => absurd (hiff.mp z) hc, fun _ => hn⟩
      | le =>
        have hiff := qq_leI hin qq_in0
        by_cases hc : x ≤ 0
        · obtain ⟨n, hn⟩ := hG _ _ _ _ (hw.1 hc)
          exact ⟨n + 1, _, _, _, _, _, _, hat, Int32.ofInt x, s1.map qq_v, rfl, fun _ => hn, fun z => absurd (hiff.mpr hc) z⟩
        · obtain ⟨n, hn⟩ := hG _ _ _ _ (hw.2 hc)
          exact ⟨n + 1, _, _, _, _, _, _, hat, Int32.ofInt x, s1.map qq_v, rfl, fun z => absurd (hiff.mp z) hc, fun _ => hn⟩
    · exact hw.elim
  | if_icmp q v =>
    dsimp only [qq_one] at hw
    split at hw
    · rename_i y x s1
      obtain ⟨hin, hw⟩ := hw
      cases q with
      | eq =>
        have hiff := qq_eqI hin.1 hin.2
        by_cases hc : x = y
        · obtain ⟨n, hn⟩ := hG _ _ _ _ (hw.1 hc)
          exact ⟨n + 1, _, _, _, _, _, _, hat, Int32.ofInt x, Int32.ofInt y, s1.map qq_v, rfl, fun _ => hn, fun z => absurd (hiff.mpr hc) z⟩
        · obtain ⟨n, hn⟩ := hG _ _ _ _ (hw.2 hc)
          exact ⟨n + 1, _, _, _, _, _, _, hat, Int32.ofInt x, Int32.ofInt y, s1.map qq_v, rfl, fun z => absurd (hiff.mp z) hc, fun _ => hn⟩
      | ne =>
        have hiff := not_congr (qq_eqI hin.1 hin.2)
        by_cases hc : ¬ x = y
        · obtain ⟨n, hn⟩ := hG _ _ _ _ (hw.1 hc)
          exact ⟨n + 1, _, _, _, _, _, _, hat, Int32.ofInt x, Int32.ofInt y, s1.map qq_v, rfl, fun _ => hn, fun z => absurd (hiff.mpr hc) z⟩
        · obtain ⟨n, hn⟩ := hG _ _ _ _ (hw.2 (Classical.not_not.mp hc))
          exact ⟨n + 1, _, _, _, _, _, _, hat, Int32.ofInt x, Int32.ofInt y, s1.map qq_v, rfl, fun z => absurd (hiff.mp z) hc, fun _ => hn⟩
      | lt =>
        have hiff := qq_ltI hin.1 hin.2
        by_cases hc : x < y
        · obtain ⟨n, hn⟩ := hG _ _ _ _ (hw.1 hc)
          exact ⟨n + 1, _, _, _, _, _, _, hat, Int32.ofInt x, Int32.ofInt y, s1.map qq_v, rfl, fun _ => hn, fun z => absurd (hiff.mpr hc) z⟩
        · obtain ⟨n, hn⟩ := hG _ _ _ _ (hw.2 hc)
          exact ⟨n + 1, _, _, _, _, _, _, hat, Int32.ofInt x, Int32.ofInt y, s1.map qq_v, rfl, fun z => absurd (hiff.mp z) hc, fun _ => hn⟩
      | ge =>
        have hiff := qq_leI hin.2 hin.1
        by_cases hc : y ≤ x
        · obtain ⟨n, hn⟩ := hG _ _ _ _ (hw.1 hc)
          exact ⟨n + 1, _, _, _, _, _, _, hat, Int32.ofInt x, Int32.ofInt y, s1.map qq_v, rfl, fun _ => hn, fun z => absurd (hiff.mpr hc) z⟩
        · obtain ⟨n, hn⟩ := hG _ _ _ _ (hw.2 hc)
          exact ⟨n + 1, _, _, _, _, _, _, hat, Int32.ofInt x, Int32.ofInt y, s1.map qq_v, rfl, fun z => absurd (hiff.mp z) hc, fun _ => hn⟩
      | gt =>
        have hiff := qq_ltI hin.2 hin.1
        by_cases hc : y < x
        · obtain ⟨n, hn⟩ := hG _ _ _ _ (hw.1 hc)
          exact ⟨n + 1, _, _, _, _, _, _, hat, Int32.ofInt x, Int32.ofInt y, s1.map qq_v, rfl, fun _ => hn, fun z => absurd (hiff.mpr hc) z⟩
        · obtain ⟨n, hn⟩ := hG _ _ _ _ (hw.2 hc)
          exact ⟨n + 1, _, _, _, _, _, _, hat, Int32.ofInt x, Int32.ofInt y, s1.map qq_v, rfl, fun z => absurd (hiff.mp z) hc, fun _ => hn⟩
      | le =>
        have hiff := qq_leI hin.1 hin.2
        by_cases hc : x ≤ y
        · obtain ⟨n, hn⟩ := hG _ _ _ _ (hw.1 hc)
          exact ⟨n + 1, _, _, _, _, _, _, hat, Int32.ofInt x, Int32.ofInt y, s1.map qq_v, rfl, fun _ => hn, fun z => absurd (hiff.mpr hc) z⟩
        · obtain ⟨n, hn⟩ := hG _ _ _ _ (hw.2 hc)
          exact ⟨n + 1, _, _, _, _, _, _, hat, Int32.ofInt x, Int32.ofInt y, s1.map qq_v, rfl, fun z => absurd (hiff.mp z) hc, fun _ => hn⟩
    · exact hw.elim
  | tableswitch dd lo hi offs =>
    dsimp only [qq_one] at hw
    split at hw
    · rename_i x s1
      obtain ⟨hin, hw1, hw2⟩ := hw
      split at hw2
      · rename_i hcond
        obtain ⟨hc1, hc2, hc3⟩ := hcond
        have hx : (Int32.ofInt x).toInt = x := qq_ti hin
        by_cases hr : x < lo ∨ hi < x
        · obtain ⟨n, hn⟩ := hG _ _ _ _ (hw1 hr)
          exact ⟨n + 1, _, _, _, _, _, _, hat, Int32.ofInt x, s1.map qq_v, rfl, fun _ => ⟨_, by rw [Int.toNat_of_nonneg hc3], hn⟩, fun z => absurd (by rw [hx]; exact hr) z⟩
        · obtain ⟨o, ho, hg⟩ := qq_tabok (x := x) offs.toList lo hw2 (by omega) (by rw [Array.length_toList]; omega)
          obtain ⟨n, hn⟩ := hG _ _ _ _ hg
          have ho2 : offs[(x - lo).toNat]? = some o := by rw [← Array.getElem?_toList]; exact ho
          have hpos : 0 ≤ (pc : Int) + o := of_decide_eq_true (List.all_eq_true.mp hc2 o (List.mem_of_getElem? ho))
          exact ⟨n + 1, _, _, _, _, _, _, hat, Int32.ofInt x, s1.map qq_v, rfl, fun z => absurd (by rw [hx] at z; exact z) hr, fun _ => ⟨o, ((pc : Int) + o).toNat, by rw [hx]; exact ho2, by rw [Int.toNat_of_nonneg hpos], hn⟩⟩
      · exact hw2.elim
    · exact hw.elim
  | getfield v =>
    dsimp only [qq_one] at hw
    split at hw
    · rename_i q s1
      split at hw
      · rename_i ci fs hq
        split at hw
        · rename_i hci
          subst hci
          obtain ⟨h3, hg9⟩ := qq_get S hq
          split at hw
          · rename_i hb
            obtain ⟨n, hn⟩ := hG _ _ _ _ hw
            exact ⟨n + 1, _, _, _, _, _, _, hat, q - 3, _, .inl (Int32.ofInt (S q b)), s1.map qq_v, by rw [Nat.sub_add_cancel h3]; rfl, hg9, by rw [List.getElem?_mapIdx, hb]; rfl, hn⟩
          · rename_i r hb
            obtain ⟨n, hn⟩ := hG _ _ _ _ hw
            exact ⟨n + 1, _, _, _, _, _, _, hat, q - 3, _, .inr (some r), s1.map qq_v, by rw [Nat.sub_add_cancel h3]; rfl, hg9, by rw [List.getElem?_mapIdx, hb]; rfl, hn⟩
          · exact hw.elim
        · exact hw.elim
      · exact hw.elim
    · exact hw.elim
  | putfield v =>
    dsimp only [qq_one] at hw
    split at hw
    · rename_i x q s1
      split at hw
      · rename_i ci fs hq
        split at hw
        · rename_i hci
          subst hci
          obtain ⟨h3, hg9⟩ := qq_get S hq
          split at hw
          · rename_i hb
            have hbl := (List.getElem?_eq_some_iff.mp hb).1
            have hset := qq_set (k := b) (x := x) (S := S) hq (y := .inl (ci, (fs.mapIdx (qq_fv (S q))).set b (.inl (Int32.ofInt x)))) (by rw [qq_fset (fun j => qq_u S q b x q j) qq_uself hb]; rfl)
            split at hw
            · obtain ⟨n, hn⟩ := hG _ _ _ _ hw
              refine ⟨n + 1, _, _, _, _, _, _, hat, q - 3, _, .inl (Int32.ofInt x), s1.map qq_v, by rw [Nat.sub_add_cancel h3]; rfl, hg9, by rw [List.length_mapIdx]; exact hbl, ⟨_, rfl⟩, ?_⟩
              rw [hset]
              exact hn
            · obtain ⟨hx, hw⟩ := hw
              obtain ⟨n, hn⟩ := hG _ _ _ _ hw
              refine ⟨n + 1, _, _, _, _, _, _, hat, q - 3, _, .inl (Int32.ofInt x), s1.map qq_v, by rw [Nat.sub_add_cancel h3]; rfl, hg9, by rw [List.length_mapIdx]; exact hbl, (by rcases hx with rfl | rfl <;> first | exact Or.inl rfl | exact Or.inr rfl), ?_⟩
              rw [hset]
              exact hn
            · exact hw.elim
          · exact hw.elim
        · exact hw.elim
      · exact hw.elim
    · exact hw.elim
  | getstatic v =>
    dsimp only [qq_one] at hw
    split at hw
    · rename_i ha
      obtain ⟨n, hn⟩ := hG _ _ _ _ hw
      exact ⟨n + 1, _, _, _, _, _, _, hat, ha, hn⟩
    · exact hw.elim
  | iaload =>
    dsimp only [qq_one] at hw
    split at hw
    · rename_i i q s1
      split at hw
      · rename_i h3
        obtain ⟨⟨i0, i1⟩, hw⟩ := hw
        obtain ⟨n, hn⟩ := hG _ _ _ _ hw
        have hlen := qq_rol hxs h3
        obtain ⟨v1, v2⟩ := qq_vin i0 i1 (by omega)
        refine ⟨n + 1, _, _, _, _, _, _, hat, Int32.ofInt i, q, s1.map qq_v, rfl, Or.inl ⟨h3, v1, ?_⟩⟩
        rw [v2]
        simp only [List.map_cons, qq_v, qq_ofT] at hn
        exact hn
      · split at hw
        · rename_i n1 hq
          obtain ⟨h3, hg9⟩ := qq_get S hq
          have hsm : n1 ≤ 100 := qq_small q _ hq
          obtain ⟨⟨i0, i1⟩, hw⟩ := hw
          obtain ⟨n, hn⟩ := hG _ _ _ _ hw
          obtain ⟨v1, v2⟩ := qq_vin i0 i1 (by omega)
          refine ⟨n + 1, _, _, _, _, _, _, hat, Int32.ofInt i, q, s1.map qq_v, rfl, Or.inr ⟨q - 3, _, by omega, hg9, by rw [List.length_map, List.length_range]; exact v1, ?_⟩⟩
          rw [v2, qq_rd (by omega)]
          exact hn
        · exact hw.elim
    · rename_i i q j s1
      split at hw
      · rename_i nr k hrow
        obtain ⟨⟨hj, i0, i1⟩, hw⟩ := hw
        obtain ⟨h3, hk, hnr, -, hcell⟩ := qq_rows hrow
        obtain ⟨h3', hg9⟩ := qq_get S (hcell j hj)
        obtain ⟨n, hn⟩ := hG _ _ _ _ hw
        obtain ⟨v1, v2⟩ := qq_vin i0 i1 (by omega)
        refine ⟨n + 1, _, _, _, _, _, _, hat, Int32.ofInt i, q + 1 + j, s1.map qq_v, rfl, Or.inr ⟨q + 1 + j - 3, _, by omega, hg9, by rw [List.length_map, List.length_range]; exact v1, ?_⟩⟩
        rw [v2, qq_rd (by omega)]
        exact hn
      · exact hw.elim
    · exact hw.elim
  | baload =>
    dsimp only [qq_one] at hw
    split at hw
    · rename_i i q s1
      split at hw
      · rename_i n1 hq
        obtain ⟨h3, hg9⟩ := qq_get S hq
        have hsm : n1 ≤ 100 := qq_small q _ hq
        obtain ⟨⟨i0, i1⟩, hw⟩ := hw
        obtain ⟨n, hn⟩ := hG _ _ _ _ hw
        obtain ⟨v1, v2⟩ := qq_vin i0 i1 (by omega)
        refine ⟨n + 1, _, _, _, _, _, _, hat, Int32.ofInt i, q - 3, s1.map qq_v, _, by rw [Nat.sub_add_cancel h3]; rfl, hg9, by rw [List.length_map, List.length_range]; exact v1, ?_⟩
        rw [v2, qq_rd (by omega)]
        exact hn
      · exact hw.elim
    · exact hw.elim
  | iastore =>
    dsimp only [qq_one] at hw
    split at hw
    · rename_i x i q s1
      split at hw
      · rename_i n1 hq
        obtain ⟨h3, hg9⟩ := qq_get S hq
        have hsm : n1 ≤ 100 := qq_small q _ hq
        obtain ⟨⟨i0, i1⟩, hw⟩ := hw
        obtain ⟨n, hn⟩ := hG _ _ _ _ hw
        obtain ⟨v1, v2⟩ := qq_vin i0 i1 (by omega)
        refine ⟨n + 1, _, _, _, _, _, _, hat, Int32.ofInt x, Int32.ofInt i, q - 3, s1.map qq_v, _, by rw [Nat.sub_add_cancel h3]; rfl, hg9, by rw [List.length_map, List.length_range]; exact v1, ?_⟩
        rw [v2, qq_set (k := i.toNat) (x := x) (S := S) hq (by rw [qq_aset (fun j => qq_u S q i.toNat x q j) qq_uself]; rfl)]
        exact hn
      · exact hw.elim
    · rename_i x i q j s1
      split at hw
      · rename_i nr k hrow
        obtain ⟨⟨hj, i0, i1⟩, hw⟩ := hw
        obtain ⟨h3, hk, hnr, -, hcell⟩ := qq_rows hrow
        have hq := hcell j hj
        obtain ⟨h3', hg9⟩ := qq_get S hq
        obtain ⟨n, hn⟩ := hG _ _ _ _ hw
        obtain ⟨v1, v2⟩ := qq_vin i0 i1 (by omega)
        refine ⟨n + 1, _, _, _, _, _, _, hat, Int32.ofInt x, Int32.ofInt i, q + 1 + j - 3, s1.map qq_v, _, by rw [Nat.sub_add_cancel h3']; rfl, hg9, by rw [List.length_map, List.length_range]; exact v1, ?_⟩
        rw [v2, qq_set (k := i.toNat) (x := x) (S := S) hq (by rw [qq_aset (fun j9 => qq_u S (q + 1 + j) i.toNat x (q + 1 + j) j9) qq_uself]; rfl)]
        exact hn
      · exact hw.elim
    · exact hw.elim
  | bastore =>
    dsimp only [qq_one] at hw
    split at hw
    · rename_i x i q s1
      split at hw
      · rename_i n1 hq
        obtain ⟨h3, hg9⟩ := qq_get S hq
        have hsm : n1 ≤ 100 := qq_small q _ hq
        obtain ⟨⟨i0, i1, hx⟩, hw⟩ := hw
        obtain ⟨n, hn⟩ := hG _ _ _ _ hw
        obtain ⟨v1, v2⟩ := qq_vin i0 i1 (by omega)
        have hnar : vp_nar .boolean (Int32.ofInt x) = Int32.ofInt x := by rcases hx with rfl | rfl <;> decide +kernel
        refine ⟨n + 1, _, _, _, _, _, _, hat, Int32.ofInt x, Int32.ofInt i, q - 3, s1.map qq_v, _, by rw [Nat.sub_add_cancel h3]; rfl, hg9, by rw [List.length_map, List.length_range]; exact v1, ?_⟩
        rw [v2, hnar, qq_set (k := i.toNat) (x := x) (S := S) hq (by rw [qq_aset (fun j => qq_u S q i.toNat x q j) qq_uself]; rfl)]
        exact hn
      · exact hw.elim
    · exact hw.elim
  | aaload =>
    dsimp only [qq_one] at hw
    split at hw
    · rename_i i q s1
      split at hw
      · rename_i nr k hrow
        obtain ⟨⟨i0, i1⟩, hw⟩ := hw
        obtain ⟨h3, hk, hnr, ⟨rs, hq, hrl, hrs⟩, -⟩ := qq_rows hrow
        obtain ⟨h3', hg9⟩ := qq_get S hq
        obtain ⟨n, hn⟩ := hG _ _ _ _ hw
        obtain ⟨v1, v2⟩ := qq_vin i0 i1 (by omega)
        refine ⟨n + 1, _, _, _, _, _, _, hat, Int32.ofInt i, q - 3, s1.map qq_v, false, _, by rw [Nat.sub_add_cancel h3]; rfl, hg9, by rw [List.length_map, hrl]; exact v1, ?_⟩
        have e : (rs.map some).getD i.toNat none = some (q + 1 + i.toNat) := by
          rw [List.getD_eq_getElem?_getD, List.getElem?_map, hrs _ (by omega)]
          rfl
        rw [v2, e]
        exact hn
      · split at hw
        · rename_i rs hq
          obtain ⟨⟨i0, i1⟩, hw⟩ := hw
          obtain ⟨h3', hg9⟩ := qq_get S hq
          have hsm : rs.length ≤ 100 := qq_small q _ hq
          obtain ⟨v1, v2⟩ := qq_vin i0 i1 (by omega)
          obtain ⟨r, hr, hg⟩ := qq_plok (x := i) rs 0 hw (by omega) (by omega)
          obtain ⟨n, hn⟩ := hG _ _ _ _ hg
          refine ⟨n + 1, _, _, _, _, _, _, hat, Int32.ofInt i, q - 3, s1.map qq_v, true, _, by rw [Nat.sub_add_cancel h3']; rfl, hg9, by rw [List.length_map]; exact v1, ?_⟩
          have e : (rs.map some).getD i.toNat none = some r := by
            rw [List.getD_eq_getElem?_getD, List.getElem?_map]
            rw [Int.sub_zero] at hr
            rw [hr]
            rfl
          rw [v2, e]
          exact hn
        · exact hw.elim
    · exact hw.elim
  | arraylength =>
    dsimp only [qq_one] at hw
    split at hw
    · rename_i q s1
      split at hw
      · rename_i h3
        obtain ⟨n, hn⟩ := hG _ _ _ _ hw
        refine ⟨n + 1, _, _, _, _, _, _, hat, q, s1.map qq_v, rfl, Or.inl ⟨h3, ?_⟩⟩
        rw [qq_natc]
        exact hn
      · split at hw
        · rename_i n1 hq
          obtain ⟨h3, hg9⟩ := qq_get S hq
          obtain ⟨n, hn⟩ := hG _ _ _ _ hw
          refine ⟨n + 1, _, _, _, _, _, _, hat, q, s1.map qq_v, rfl, Or.inr ⟨q - 3, _, by omega, hg9, ?_⟩⟩
          rw [List.length_map, List.length_range, qq_natc]
          exact hn
        · exact hw.elim
    · exact hw.elim
  | invokevirtual v =>
    dsimp only [qq_one] at hw
    split at hw
    · rename_i q s1 hdrop
      split at hw
      · rename_i ci fs hq
        split at hw
        · rename_i hci
          unfold qq_call at hw
          split at hw
          · rename_i pre r S' hsp9
            obtain ⟨hpre, hw⟩ := hw
            obtain ⟨n, hn⟩ := hG _ _ _ _ hw
            obtain ⟨h3, hg9⟩ := qq_get S hq
            have hlen : (st.take b).length = b := by
              rw [List.length_take]
              have : (st.drop b).length = s1.length + 1 := by rw [hdrop]; rfl
              rw [List.length_drop] at this
              omega
            have hst : st.map qq_v = ((st.take b).reverse.map qq_v).reverse ++ .inr (some (q - 3 + 3)) :: s1.map qq_v := by
              rw [Nat.sub_add_cancel h3]
              have e : st = st.take b ++ (.inr (q, none) :: s1) := by rw [← hdrop, List.take_append_drop]
              conv => lhs; rw [e]
              rw [List.map_append, List.map_reverse, List.reverse_reverse]
              rfl
            have hE9 := hsp _ _ _ _ _ _ hsp9 hpre
            refine ⟨n + 1, _, _, _, _, _, _, hat, (st.take b).reverse.map qq_v, q - 3, s1.map qq_v, _, ci, r.map Int32.ofInt, qq_e S', hst, by rw [List.length_map, List.length_reverse]; exact hlen, by rw [List.length_map]; exact hci.2, hg9, hci.1, ?_, by rw [qq_len, qq_len]; omega, by rw [qq_size, qq_size]; omega, by rw [qq_len]; omega, by rw [qq_size]; omega, ?_⟩
            · rw [Nat.sub_add_cancel h3]
              exact hE9
            · cases r <;> exact hn
          · exact hZ _ _ _ _ hw
        · exact hw.elim
      · exact hw.elim
    · exact hw.elim
  | invokestatic v =>
    dsimp only [qq_one] at hw
    split at hw
    · split at hw
      · rename_i x s1
        split at hw
        · rename_i hs8
          obtain ⟨hx, hw⟩ := hw
          obtain ⟨n, hn⟩ := hG _ _ _ _ hw
          have hxi : qq_in x := by unfold qq_in; omega
          refine ⟨n + 1, _, _, _, _, _, _, hat, Int32.ofInt x, s1.map qq_v, rfl, by rw [List.length_map]; exact hs8, by rw [qq_len]; omega, by rw [qq_size]; omega, ?_⟩
          have e : (if 0 ≤ Int32.ofInt x then Int32.ofInt x else 0 - Int32.ofInt x) = Int32.ofInt (if 0 ≤ x then x else -x) := by
            have hiff : (0 ≤ Int32.ofInt x) ↔ 0 ≤ x := qq_leI qq_in0 hxi
            by_cases h0 : 0 ≤ x
            · rw [if_pos h0, if_pos (hiff.mpr h0)]
            · rw [if_neg h0, if_neg (fun z => h0 (hiff.mp z)), Int32.ofInt_neg, Int32.zero_sub]
          rw [e]
          exact hn
        · exact hw.elim
      · exact hw.elim
    · split at hw
      · rename_i y x s1
        split at hw
        · rename_i hs8
          obtain ⟨hx, hw⟩ := hw
          obtain ⟨n, hn⟩ := hG _ _ _ _ hw
          refine ⟨n + 1, _, _, _, _, _, _, hat, Int32.ofInt x, Int32.ofInt y, s1.map qq_v, rfl, by rw [List.length_map]; exact hs8, by rw [qq_len]; omega, by rw [qq_size]; omega, ?_⟩
          have e : (if Int32.ofInt x < Int32.ofInt y then Int32.ofInt y else Int32.ofInt x) = Int32.ofInt (if x < y then y else x) := by
            have hiff := qq_ltI hx.1 hx.2
            by_cases h0 : x < y
            · rw [if_pos h0, if_pos (hiff.mpr h0)]
            · rw [if_neg h0, if_neg (fun z => h0 (hiff.mp z))]
          rw [e]
          exact hn
        · exact hw.elim
      · exact hw.elim
    · split at hw
      · rename_i y x s1
        split at hw
        · rename_i hs8
          obtain ⟨hx, hw⟩ := hw
          obtain ⟨n, hn⟩ := hG _ _ _ _ hw
          refine ⟨n + 1, _, _, _, _, _, _, hat, Int32.ofInt x, Int32.ofInt y, s1.map qq_v, rfl, by rw [List.length_map]; exact hs8, by rw [qq_len]; omega, by rw [qq_size]; omega, ?_⟩
          have e : (if Int32.ofInt y < Int32.ofInt x then Int32.ofInt y else Int32.ofInt x) = Int32.ofInt (if y < x then y else x) := by
            have hiff := qq_ltI hx.2 hx.1
            by_cases h0 : y < x
            · rw [if_pos h0, if_pos (hiff.mpr h0)]
            · rw [if_neg h0, if_neg (fun z => h0 (hiff.mp z))]
          rw [e]
          exact hn
        · exact hw.elim
      · exact hw.elim
    · rename_i c10 c11 c12
      split at hw
      · rename_i hlen
        unfold qq_call at hw
        split at hw
        · rename_i pre r S' hsp9
          obtain ⟨hpre, hw⟩ := hw
          obtain ⟨n, hn⟩ := hG _ _ _ _ hw
          have hst : st.map qq_v = ((st.take b).reverse.map qq_v).reverse ++ (st.drop b).map qq_v := by
            conv => lhs; rw [← List.take_append_drop b st]
            rw [List.map_append, List.map_reverse, List.reverse_reverse]
          have hE9 := hsp _ _ _ _ _ _ hsp9 hpre
          refine ⟨n + 1, _, _, _, _, _, _, hat, ?_⟩
          dsimp only [mm_one]
          split
          · exact absurd rfl c10
          · exact absurd rfl c11
          · exact absurd rfl c12
          · refine ⟨(st.take b).reverse.map qq_v, (st.drop b).map qq_v, r.map Int32.ofInt, qq_e S', hst, by rw [List.length_map, List.length_reverse, List.length_take]; omega, by rw [List.length_map]; exact hlen.2, hE9, by rw [qq_len, qq_len]; omega, by rw [qq_size, qq_size]; omega, by rw [qq_len]; omega, by rw [qq_size]; omega, ?_⟩
            cases r <;> exact hn
        · exact hZ _ _ _ _ hw
      · exact hw.elim
  | ireturn =>
    dsimp only [qq_one] at hw
    split at hw
    · rename_i v
      split at hw
      · exact ⟨1, _, _, _, _, _, _, hat, Int32.ofInt v, rfl, Or.inl rfl, some v, S, rfl, rfl, hw⟩
      · obtain ⟨hv, hw⟩ := hw
        exact ⟨1, _, _, _, _, _, _, hat, Int32.ofInt v, rfl, Or.inr ⟨rfl, (by rcases hv with rfl | rfl <;> first | exact Or.inl rfl | exact Or.inr rfl)⟩, some v, S, rfl, rfl, hw⟩
      · exact hw.elim
    · exact hw.elim
  | return_ =>
    dsimp only [qq_one] at hw
    split at hw
    · exact ⟨1, _, _, _, _, _, _, hat, rfl, rfl, none, S, rfl, rfl, hw⟩
    · exact hw.elim
  | _ => exact False.elim hw
theorem qq_atpc {code : List mm_E} {pc : Nat} {e : mm_E} (h : mm_at code pc = some e) : e.1 = pc := by
  have := List.find?_some h
  simpa using this
theorem qq_wsound {xs : List Int32} (hxs : xs.length ≤ 2048) {d : Nat} {sp : qq_P} (hsp : qq_ok xs d sp) {rt : Option FieldType} {code : List mm_E} {stops : List Nat} {K : qq_K} {Z : qq_G} (hZ : ∀ pc ls st S, Z pc ls st S → qq_p xs d rt code K pc ls st S) : ∀ (n pc : Nat) (ls : qq_L) (st : List qq_V) (S : qq_S), qq_w xs sp rt code stops K Z n pc ls st S → qq_p xs d rt code K pc ls st S
  | 0, pc, ls, st, S, h => hZ _ _ _ _ h
  | n + 1, pc, ls, st, S, h => by
    unfold qq_w at h
    split at h
    · exact hZ _ _ _ _ h
    · split at h
      · rename_i pc' i len a b c w hat
        have hpc : pc' = pc := qq_atpc hat
        subst hpc
        exact qq_sound1 hxs hsp (qq_wsound hxs hsp hZ n) hZ hat h
      · exact h.elim
theorem qq_fsound {xs : List Int32} (hxs : xs.length ≤ 2048) {d : Nat} {sp : qq_P} (hsp : qq_ok xs d sp) {rt : Option FieldType} {code : List mm_E} {K : qq_K} (stops : List Nat) (n : Nat) {pc : Nat} {ls : qq_L} {st : List qq_V} {S : qq_S} (h : qq_f xs sp rt code stops K (qq_p xs d rt code K) n pc ls st S) : qq_p xs d rt code K pc ls st S := by
  unfold qq_f at h
  split at h
  · rename_i pc' i len a b c w hat
    have hpc : pc' = pc := qq_atpc hat
    subst hpc
    exact qq_sound1 hxs hsp (qq_wsound hxs hsp (fun _ _ _ _ z => z) n) (fun _ _ _ _ z => z) hat h
  · exact h.elim
def qq_ent (M : mm_M) (as : List qq_V) : qq_L := as.map some ++ List.replicate (mm_ml M - as.length) none
/-- a method's run gives a call, and what it ends with -/
theorem qq_call_of {xs : List Int32} {d y : Nat} {M : mm_M} {as : List qq_V} {S : qq_S} {K : qq_K} (hM : mm_mt[y]? = some M) (hn : as.length ≤ mm_ml M) (h : qq_p xs d (mm_mr M) (mm_mk M) K 0 (qq_ent M as) [] S) : ∃ r S', qq_E xs (d + 1) y as S r S' ∧ K r S' := by
  obtain ⟨n, hw⟩ := h
  have e : (qq_ent M as).map (Option.map qq_v) = mm_ent M (as.map qq_v) := by
    unfold qq_ent mm_ent
    rw [List.map_append, List.length_map, List.map_replicate, List.map_map, List.map_map]
    rfl
  rw [e] at hw
  have hle : (as.map qq_v).length ≤ mm_ml M := by rw [List.length_map]; exact hn
  have h1 := mm_ev (y := y) hM hle hw
  obtain ⟨r, h', hk, hE⟩ := h1
  obtain ⟨r2, S2, e1, e2, hk⟩ := hk
  rw [e1, e2] at hE
  exact ⟨r2, S2, hE, hk⟩
end
section
/-! The constructors, run: a computable run of the little machine, sound; what it leaves is the shape with its first numbers. -/
def mm_xr (ca : Nat → List mm_V → mm_H → Option (Option Int32 × mm_H)) (code : List mm_E) (rt : Option FieldType) : Nat → Nat → mm_L → List mm_V → mm_H → Option (Option Int32 × mm_H)
  | 0, _, _, _, _ => none
  | n + 1, pc, ls, st, h => match mm_at code pc with
    | none => none
    | some (_, i, _, a, b, c, _) => match i with
      | .iconst v => mm_xr ca code rt n (pc + 1) ls (.inl (Int32.ofInt v) :: st) h
      | .bipush v => mm_xr ca code rt n (pc + 2) ls (.inl (Int8.ofInt v).toInt32 :: st) h
      | .iload_n k => match ls[k.val]? with
        | some (some (.inl x)) => mm_xr ca code rt n (pc + 1) ls (.inl x :: st) h
        | _ => none
      | .aload_n k => match ls[k.val]? with
        | some (some (.inr (some r))) => mm_xr ca code rt n (pc + 1) ls (.inr (some r) :: st) h
        | _ => none
      | .istore_n k => match st with
        | .inl x :: s' => if k.val < ls.length then mm_xr ca code rt n (pc + 1) (ls.set k.val (some (.inl x))) s' h else none
        | _ => none
      | .iinc k v => match ls[k]? with
        | some (some (.inl x)) => mm_xr ca code rt n (pc + 3) (ls.set k (some (.inl (x + Int32.ofInt v)))) st h
        | _ => none
      | .dup => match st with
        | v :: s' => mm_xr ca code rt n (pc + 1) ls (v :: v :: s') h
        | _ => none
      | .goto _ => mm_xr ca code rt n a ls st h
      | .if_icmp q _ => match q, st with
        | .ge, .inl y :: .inl x :: s' => if y ≤ x then mm_xr ca code rt n a ls s' h else mm_xr ca code rt n (pc + 3) ls s' h
        | _, _ => none
      | .getfield _ => match st with
        | .inr (some (r + 3)) :: s' => match h[r]? with
          | some (.inl (ci, fs)) => if ci = a then (match fs[b]? with
            | some v => mm_xr ca code rt n (pc + 3) ls (v :: s') h
            | none => none) else none
          | _ => none
        | _ => none
      | .putfield _ => match st with
        | v :: .inr (some (r + 3)) :: s' => match h[r]? with
          | some (.inl (ci, fs)) => if ci = a ∧ b < fs.length then (match c, v with
            | 0, .inl _ => mm_xr ca code rt n (pc + 3) ls s' (h.set r (.inl (a, fs.set b v)))
            | 2, .inr (some _) => mm_xr ca code rt n (pc + 3) ls s' (h.set r (.inl (a, fs.set b v)))
            | _, _ => none) else none
          | _ => none
        | _ => none
      | .aaload => match st with
        | .inl i :: .inr (some (r + 3)) :: s' => match h[r]? with
          | some (.inr (.inr (_, xs))) => if i < 0 ∨ xs.length ≤ i.toNatClampNeg then none else mm_xr ca code rt n (pc + 1) ls (.inr (xs.getD i.toNatClampNeg none) :: s') h
          | _ => none
        | _ => none
      | .iastore => match st with
        | .inl x :: .inl i :: .inr (some (r + 3)) :: s' => match h[r]? with
          | some (.inr (.inl (false, xs))) => if i < 0 ∨ xs.length ≤ i.toNatClampNeg then none else mm_xr ca code rt n (pc + 1) ls s' (h.set r (.inr (.inl (false, xs.set i.toNatClampNeg x))))
          | _ => none
        | _ => none
      | .bastore => match st with
        | .inl x :: .inl i :: .inr (some (r + 3)) :: s' => match h[r]? with
          | some (.inr (.inl (true, xs))) => if i < 0 ∨ xs.length ≤ i.toNatClampNeg then none else mm_xr ca code rt n (pc + 1) ls s' (h.set r (.inr (.inl (true, xs.set i.toNatClampNeg (vp_nar .boolean x)))))
          | _ => none
        | _ => none
      | .aastore => match st with
        | .inr (some (v + 3)) :: .inl i :: .inr (some (r + 3)) :: s' => match h[r]?, h[v]? with
          | some (.inr (.inr (true, xs))), some (.inl (3, _)) => if i < 0 ∨ xs.length ≤ i.toNatClampNeg then none else mm_xr ca code rt n (pc + 1) ls s' (h.set r (.inr (.inr (true, xs.set i.toNatClampNeg (some (v + 3))))))
          | _, _ => none
        | _ => none
      | .arraylength => match st with
        | .inr (some (r + 3)) :: s' => match h[r]? with
          | some (.inr (.inl (false, xs))) => mm_xr ca code rt n (pc + 1) ls (.inl (Int32.ofNat xs.length) :: s') h
          | _ => none
        | _ => none
      | .new _ => if h.length + 1 ≤ 600000 ∧ mm_sz h + (mm_defs a).length ≤ 7302250 then mm_xr ca code rt n (pc + 3) ls (.inr (some (h.length + 3)) :: st) (h ++ [.inl (a, mm_defs a)]) else none
      | .newarray t => match st with
        | .inl i :: s' => if (t = .int ∨ t = .boolean) ∧ ¬ i < 0 ∧ i.toNatClampNeg ≤ 1000000 ∧ h.length + 1 ≤ 600000 ∧ mm_sz h + i.toNatClampNeg ≤ 7302250 then mm_xr ca code rt n (pc + 2) ls (.inr (some (h.length + 3)) :: s') (h ++ [.inr (.inl (decide (t = .boolean), List.replicate i.toNatClampNeg 0))]) else none
        | _ => none
      | .anewarray _ => match st with
        | .inl i :: s' => if ¬ i < 0 ∧ i.toNatClampNeg ≤ 1000000 ∧ h.length + 1 ≤ 600000 ∧ mm_sz h + i.toNatClampNeg ≤ 7302250 then mm_xr ca code rt n (pc + 3) ls (.inr (some (h.length + 3)) :: s') (h ++ [.inr (.inr (true, List.replicate i.toNatClampNeg none))]) else none
        | _ => none
      | .multianewarray _ _ => match st with
        | .inl k :: .inl m :: s' => if ¬ m < 0 ∧ ¬ k < 0 ∧ m.toNatClampNeg ≤ 1000000 ∧ k.toNatClampNeg ≤ 1000000 ∧ h.length + (1 + m.toNatClampNeg) ≤ 600000 ∧ mm_sz h + (m.toNatClampNeg + m.toNatClampNeg * k.toNatClampNeg) ≤ 7302250 then mm_xr ca code rt n (pc + 4) ls (.inr (some (h.length + 3)) :: s') (h ++ mm_rows m.toNatClampNeg k.toNatClampNeg (h.length + 3)) else none
        | _ => none
      | .invokevirtual _ => match st.drop b with
        | .inr (some (r + 3)) :: s' => (match h[r]?, ca a (.inr (some (r + 3)) :: (st.take b).reverse) h with
          | some (.inl (ci, _)), some (rv, h') => if ci = c ∧ s'.length ≤ 8 ∧ h.length ≤ h'.length ∧ mm_sz h ≤ mm_sz h' ∧ h'.length ≤ 600000 ∧ mm_sz h' ≤ 7302250 then mm_xr ca code rt n (pc + 3) ls ((rv.map Sum.inl).toList ++ s') h' else none
          | _, _ => none)
        | _ => none
      | .invokestatic _ => if c = 0 ∧ b ≤ st.length ∧ (st.drop b).length ≤ 8 then (match ca a (st.take b).reverse h with
          | some (rv, h') => if h.length ≤ h'.length ∧ mm_sz h ≤ mm_sz h' ∧ h'.length ≤ 600000 ∧ mm_sz h' ≤ 7302250 then mm_xr ca code rt n (pc + 3) ls ((rv.map Sum.inl).toList ++ st.drop b) h' else none
          | none => none) else none
      | .invokespecial _ => if c = 2 then (match st with
          | .inr (some _) :: s' => if s'.length ≤ 8 then mm_xr ca code rt n (pc + 3) ls s' h else none
          | _ => none) else (match st.drop b with
          | .inr (some r) :: s' => (match ca a (.inr (some r) :: (st.take b).reverse) h with
            | some (none, h') => if s'.length ≤ 8 ∧ h.length ≤ h'.length ∧ mm_sz h ≤ mm_sz h' ∧ h'.length ≤ 600000 ∧ mm_sz h' ≤ 7302250 then mm_xr ca code rt n (pc + 3) ls s' h' else none
            | _ => none)
          | _ => none)
      | .return_ => match st, rt with
        | [], none => some (none, h)
        | _, _ => none
      | _ => none
def mm_x : Nat → Nat → List mm_V → mm_H → Option (Option Int32 × mm_H)
  | 0, _, _, _ => none
  | d + 1, y, as, h => match mm_mt[y]? with
    | some M => if as.length ≤ mm_ml M then mm_xr (mm_x d) (mm_mk M) (mm_mr M) 3000 0 (mm_ent M as) [] h else none
    | none => none
theorem mm_takedrop {b : Nat} {st s' : List mm_V} {v : mm_V} (h : st.drop b = v :: s') : st = ((st.take b).reverse).reverse ++ v :: s' ∧ ((st.take b).reverse).length = b := by
  constructor
  · rw [List.reverse_reverse, ← h, List.take_append_drop]
  · rw [List.length_reverse, List.length_take]
    have : (st.drop b).length = s'.length + 1 := by rw [h]; rfl
    rw [List.length_drop] at this
    omega
set_option maxHeartbeats 4000000 in
theorem mm_xr_ok {ro : Nat → List Int32} {Ca : mm_R} {ca : Nat → List mm_V → mm_H → Option (Option Int32 × mm_H)} (hca : ∀ y as h r h', ca y as h = some (r, h') → Ca y as h r h') {code : List mm_E} {rt : Option FieldType} {r9 : Option Int32} {h9 : mm_H} : ∀ (n pc : Nat) (ls : mm_L) (st : List mm_V) (h : mm_H), mm_xr ca code rt n pc ls st h = some (r9, h9) → mm_wp ro Ca rt code 600000 7302250 (mm_pin r9 h9) n pc ls st h
  | 0, _, _, _, _, hw => by cases hw
  | n + 1, pc, ls, st, h, hw => by
    have ih := fun pc ls st h hh => mm_xr_ok (ro := ro) hca (code := code) (rt := rt) (r9 := r9) (h9 := h9) n pc ls st h hh
    unfold mm_xr at hw
    split at hw
    · cases hw
    · rename_i pc' i len a b c w hat
      have hpc : pc' = pc := qq_atpc hat
      subst hpc
      refine ⟨i, len, a, b, c, w, hat, ?_⟩
      clear hat
      split at hw
      · exact ih _ _ _ _ hw
      · exact ih _ _ _ _ hw
      · split at hw
        · rename_i hk
          exact ⟨_, hk, ih _ _ _ _ hw⟩
        · cases hw
      · split at hw
        · rename_i hk
          exact ⟨_, hk, ih _ _ _ _ hw⟩
        · cases hw
      · split at hw
        · split at hw
          · rename_i hk
            exact ⟨_, _, rfl, hk, ih _ _ _ _ hw⟩
          · cases hw
        · cases hw
      · split at hw
        · rename_i hk
          exact ⟨_, hk, ih _ _ _ _ hw⟩
        · cases hw
      · split at hw
        · exact ⟨_, _, rfl, ih _ _ _ _ hw⟩
        · cases hw
      · exact ih _ _ _ _ hw
      · split at hw
        · split at hw
          · rename_i hk
            exact ⟨_, _, _, rfl, fun _ => ih _ _ _ _ hw, fun z => absurd hk z⟩
          · rename_i hk
            exact ⟨_, _, _, rfl, fun z => absurd z hk, fun _ => ih _ _ _ _ hw⟩
        · cases hw
      · split at hw
        · split at hw
          · rename_i hk
            split at hw
            · rename_i hci
              subst hci
              split at hw
              · rename_i hv
                exact ⟨_, _, _, _, rfl, hk, hv, ih _ _ _ _ hw⟩
              · cases hw
            · cases hw
          · cases hw
        · cases hw
      · split at hw
        · split at hw
          · rename_i hk
            split at hw
            · rename_i hci
              obtain ⟨hci, hbl⟩ := hci
              subst hci
              split at hw
              · exact ⟨_, _, _, _, rfl, hk, hbl, ⟨_, rfl⟩, ih _ _ _ _ hw⟩
              · exact ⟨_, _, _, _, rfl, hk, hbl, ⟨_, rfl⟩, ih _ _ _ _ hw⟩
              · cases hw
            · cases hw
          · cases hw
        · cases hw
      · split at hw
        · split at hw
          · rename_i hk
            split at hw
            · cases hw
            · rename_i hin
              exact ⟨_, _, _, _, _, rfl, hk, hin, ih _ _ _ _ hw⟩
          · cases hw
        · cases hw
      · split at hw
        · split at hw
          · rename_i hk
            split at hw
            · cases hw
            · rename_i hin
              exact ⟨_, _, _, _, _, rfl, hk, hin, ih _ _ _ _ hw⟩
          · cases hw
        · cases hw
      · split at hw
        · split at hw
          · rename_i hk
            split at hw
            · cases hw
            · rename_i hin
              exact ⟨_, _, _, _, _, rfl, hk, hin, ih _ _ _ _ hw⟩
          · cases hw
        · cases hw
      · split at hw
        · split at hw
          · rename_i hk1 hk2
            split at hw
            · cases hw
            · rename_i hin
              exact ⟨_, _, _, _, _, _, rfl, hk1, hk2, hin, ih _ _ _ _ hw⟩
          · cases hw
        · cases hw
      · split at hw
        · split at hw
          · rename_i hk
            exact ⟨_, _, rfl, Or.inr ⟨_, _, rfl, hk, ih _ _ _ _ hw⟩⟩
          · cases hw
        · cases hw
      · split at hw
        · rename_i hk
          exact ⟨hk.1, hk.2, ih _ _ _ _ hw⟩
        · cases hw
      · split at hw
        · split at hw
          · rename_i hk
            exact ⟨_, _, rfl, hk.1, hk.2.1, hk.2.2.1, hk.2.2.2.1, hk.2.2.2.2, ih _ _ _ _ hw⟩
          · cases hw
        · cases hw
      · split at hw
        · split at hw
          · rename_i hk
            exact ⟨_, _, rfl, hk.1, hk.2.1, hk.2.2.1, hk.2.2.2, ih _ _ _ _ hw⟩
          · cases hw
        · cases hw
      · split at hw
        · split at hw
          · rename_i hk
            exact ⟨_, _, _, rfl, hk.1, hk.2.1, hk.2.2.1, hk.2.2.2.1, hk.2.2.2.2.1, hk.2.2.2.2.2, ih _ _ _ _ hw⟩
          · cases hw
        · cases hw
      · split at hw
        · rename_i hdrop
          split at hw
          · rename_i hk1 hk2
            split at hw
            · rename_i hk
              obtain ⟨q1, q2, q3, q4, q5, q6⟩ := hk
              obtain ⟨t1, t2⟩ := mm_takedrop hdrop
              exact ⟨_, _, _, _, _, _, _, t1, t2, q2, hk1, q1, hca _ _ _ _ _ hk2, q3, q4, q5, q6, ih _ _ _ _ hw⟩
            · cases hw
          · cases hw
        · cases hw
      · split at hw
        · rename_i hk
          obtain ⟨q1, q2, q3⟩ := hk
          subst q1
          split at hw
          · rename_i hk2
            split at hw
            · rename_i hk
              obtain ⟨p1, p2, p3, p4⟩ := hk
              exact ⟨(st.take b).reverse, st.drop b, _, _, by rw [List.reverse_reverse, List.take_append_drop], by rw [List.length_reverse, List.length_take]; omega, q3, hca _ _ _ _ _ hk2, p1, p2, p3, p4, ih _ _ _ _ hw⟩
            · cases hw
          · cases hw
        · cases hw
      · split at hw
        · rename_i hc
          subst hc
          split at hw
          · split at hw
            · rename_i hk
              exact ⟨_, _, rfl, hk, ih _ _ _ _ hw⟩
            · cases hw
          · cases hw
        · rename_i hc
          split at hw
          · rename_i hdrop
            split at hw
            · rename_i hk2
              split at hw
              · rename_i hk
                obtain ⟨q2, q3, q4, q5, q6⟩ := hk
                obtain ⟨t1, t2⟩ := mm_takedrop hdrop
                dsimp only [mm_one]
                split
                · exact absurd rfl hc
                · exact ⟨_, _, _, _, t1, t2, q2, hca _ _ _ _ _ hk2, q3, q4, q5, q6, ih _ _ _ _ hw⟩
              · cases hw
            · cases hw
          · cases hw
      · split at hw
        · cases hw
          exact ⟨rfl, rfl, rfl, rfl⟩
        · cases hw
      · cases hw
theorem mm_x_ok {ro : Nat → List Int32} : ∀ (d y : Nat) (as : List mm_V) (h : mm_H) (r : Option Int32) (h' : mm_H), mm_x d y as h = some (r, h') → mm_EvT mm_mt ro d y as h r h'
  | 0, _, _, _, _, _, hw => by cases hw
  | d + 1, y, as, h, r, h', hw => by
    unfold mm_x at hw
    split at hw
    · rename_i M hM
      split at hw
      · rename_i hl
        obtain ⟨r2, h2, ⟨e1, e2⟩, hE⟩ := mm_ev (y := y) hM hl (mm_xr_ok (ro := ro) (Ca := mm_EvT mm_mt ro d) (fun y as h r h' hh => mm_x_ok d y as h r h' hh) _ _ _ _ _ hw)
        rw [e1, e2] at hE
        exact hE
      · cases hw
    · cases hw
/-! equal heaps, by a computation -/
def mm_veq : mm_V → mm_V → Bool
  | .inl x, .inl y => x == y
  | .inr x, .inr y => x == y
  | _, _ => false
def mm_leq {α : Type} (f : α → α → Bool) : List α → List α → Bool
  | [], [] => true
  | a :: l, b :: m => f a b && mm_leq f l m
  | _, _ => false
def mm_ceq : mm_C → mm_C → Bool
  | .inl x, .inl y => x.1 == y.1 && mm_leq mm_veq x.2 y.2
  | .inr (.inl x), .inr (.inl y) => x.1 == y.1 && mm_leq (fun a b => a == b) x.2 y.2
  | .inr (.inr x), .inr (.inr y) => x.1 == y.1 && mm_leq (fun a b => a == b) x.2 y.2
  | _, _ => false
theorem mm_leq_ok {α : Type} {f : α → α → Bool} (hf : ∀ a b, f a b = true → a = b) : ∀ l m : List α, mm_leq f l m = true → l = m
  | [], [], _ => rfl
  | a :: l, b :: m, h => by
    rw [mm_leq, Bool.and_eq_true] at h
    rw [hf a b h.1, mm_leq_ok hf l m h.2]
  | [], _ :: _, h => by cases h
  | _ :: _, [], h => by cases h
theorem mm_veq_ok : ∀ a b : mm_V, mm_veq a b = true → a = b
  | .inl x, .inl y, h => by rw [eq_of_beq (show (x == y) = true from h)]
  | .inr x, .inr y, h => by rw [eq_of_beq (show (x == y) = true from h)]
  | .inl _, .inr _, h => by cases h
  | .inr _, .inl _, h => by cases h
theorem mm_ceq_ok : ∀ a b : mm_C, mm_ceq a b = true → a = b
  | .inl (x1, x2), .inl (y1, y2), h => by
    obtain ⟨h1, h2⟩ := (Bool.and_eq_true _ _ ▸ (show (x1 == y1 && mm_leq mm_veq x2 y2) = true from h) : (x1 == y1) = true ∧ mm_leq mm_veq x2 y2 = true)
    rw [eq_of_beq h1, mm_leq_ok mm_veq_ok _ _ h2]
  | .inr (.inl (x1, x2)), .inr (.inl (y1, y2)), h => by
    obtain ⟨h1, h2⟩ := (Bool.and_eq_true _ _ ▸ (show (x1 == y1 && mm_leq (fun a b => a == b) x2 y2) = true from h) : (x1 == y1) = true ∧ mm_leq (fun a b => a == b) x2 y2 = true)
    rw [eq_of_beq h1, mm_leq_ok (fun a b z => eq_of_beq z) _ _ h2]
  | .inr (.inr (x1, x2)), .inr (.inr (y1, y2)), h => by
    obtain ⟨h1, h2⟩ := (Bool.and_eq_true _ _ ▸ (show (x1 == y1 && mm_leq (fun a b => a == b) x2 y2) = true from h) : (x1 == y1) = true ∧ mm_leq (fun a b => a == b) x2 y2 = true)
    rw [eq_of_beq h1, mm_leq_ok (fun a b z => eq_of_beq z) _ _ h2]
  | .inl _, .inr _, h => by cases h
  | .inr (.inl _), .inl _, h => by cases h
  | .inr (.inr _), .inl _, h => by cases h
  | .inr (.inl _), .inr (.inr _), h => by cases h
  | .inr (.inr _), .inr (.inl _), h => by cases h
def mm_xeq (o : Option (Option Int32 × mm_H)) (h : mm_H) : Bool := match o with
  | some (none, h') => mm_leq mm_ceq h' h
  | _ => false
theorem mm_xeq_ok {o : Option (Option Int32 × mm_H)} {h : mm_H} (e : mm_xeq o h = true) : o = some (none, h) := by
  unfold mm_xeq at e
  split at e
  · rename_i h'
    rw [mm_leq_ok mm_ceq_ok _ _ e]
  · cases e
/-- the first numbers -/
def qq_0 : qq_S := fun q k =>
  if (16 ≤ q ∧ q ≤ 21) ∨ (38 ≤ q ∧ q ≤ 47) ∨ q = 49 ∨ q = 50 ∨ q = 57 ∨ q = 58 ∨ q = 103 ∨ q = 104 ∨ q = 107 ∨ q = 108 ∨ q = 111 ∨ q = 112 ∨ q = 96 ∨ q = 97 then -1
  else if (q = 48 ∨ q = 56 ∨ q = 102 ∨ q = 106 ∨ q = 110) ∧ k < 2 then 5
  else if q = 52 then (if k = 0 then 10 else if k = 1 then 1 else if k = 2 then 3 else 1)
  else if q = 115 then (if k = 12 ∨ k = 13 then 5 else if k = 14 then 1 else if k = 15 then 10 else if k = 16 then 1 else if k = 17 then 3 else 0)
  else 0
def qq_h1 : mm_H := (qq_e qq_0).take 112
set_option maxRecDepth 100000 in
theorem mm_new1 : mm_xeq (mm_x 6 84 [.inr (some 3)] [.inl (7, mm_defs 7)]) qq_h1 = true := by decide +kernel
set_option maxRecDepth 100000 in
theorem mm_new2 : mm_xeq (mm_x 6 113 [.inr (some 115)] (qq_h1 ++ [.inl (8, mm_defs 8)])) (qq_e qq_0) = true := by decide +kernel
end
section
/-! more depth does no harm -/
set_option maxHeartbeats 2000000 in
theorem mm_mono {ro : Nat → List Int32} {Ca Cb : mm_R} (hC : ∀ y as h r h', Ca y as h r h' → Cb y as h r h') {rt : Option FieldType} {code : List mm_E} {hl hs : Nat} {K : Option Int32 → mm_H → Prop} : ∀ (n pc : Nat) (ls : mm_L) (st : List mm_V) (h : mm_H), mm_wp ro Ca rt code hl hs K n pc ls st h → mm_wp ro Cb rt code hl hs K n pc ls st h
  | 0, _, _, _, _, hw => False.elim hw
  | n + 1, pc, ls, st, h, hw => by
    have ih := fun pc ls st h hh => mm_mono hC (ro := ro) (rt := rt) (code := code) (hl := hl) (hs := hs) (K := K) n pc ls st h hh
    obtain ⟨i, len, a, b, c, w, hat, hw⟩ := hw
    refine ⟨i, len, a, b, c, w, hat, ?_⟩
    clear hat
    cases i with
    | iconst v => exact ih _ _ _ _ hw
    | bipush v => exact ih _ _ _ _ hw
    | sipush v => exact ih _ _ _ _ hw
    | ldc v => exact ih _ _ _ _ hw
    | goto v => exact ih _ _ _ _ hw
    | iload_n v =>
      obtain ⟨x, e1, hg⟩ := hw
      dsimp only [mm_one]
      exact ⟨x, e1, ih _ _ _ _ hg⟩
    | iload v =>
      obtain ⟨x, e1, hg⟩ := hw
      dsimp only [mm_one]
      exact ⟨x, e1, ih _ _ _ _ hg⟩
    | aload_n v =>
      obtain ⟨x, e1, hg⟩ := hw
      dsimp only [mm_one]
      exact ⟨x, e1, ih _ _ _ _ hg⟩
    | iinc v w =>
      obtain ⟨x, e1, hg⟩ := hw
      dsimp only [mm_one]
      exact ⟨x, e1, ih _ _ _ _ hg⟩
    | istore_n v =>
      obtain ⟨x, s1, e1, e2, hg⟩ := hw
      dsimp only [mm_one]
      exact ⟨x, s1, e1, e2, ih _ _ _ _ hg⟩
    | istore v =>
      obtain ⟨x, s1, e1, e2, hg⟩ := hw
      dsimp only [mm_one]
      exact ⟨x, s1, e1, e2, ih _ _ _ _ hg⟩
    | astore_n v =>
      obtain ⟨x, s1, e1, e2, hg⟩ := hw
      dsimp only [mm_one]
      exact ⟨x, s1, e1, e2, ih _ _ _ _ hg⟩
    | iadd =>
      obtain ⟨x, y, s1, e1, hg⟩ := hw
      dsimp only [mm_one]
      exact ⟨x, y, s1, e1, ih _ _ _ _ hg⟩
    | isub =>
      obtain ⟨x, y, s1, e1, hg⟩ := hw
      dsimp only [mm_one]
      exact ⟨x, y, s1, e1, ih _ _ _ _ hg⟩
    | imul =>
      obtain ⟨x, y, s1, e1, hg⟩ := hw
      dsimp only [mm_one]
      exact ⟨x, y, s1, e1, ih _ _ _ _ hg⟩
    | iand =>
      obtain ⟨x, y, s1, e1, hg⟩ := hw
      dsimp only [mm_one]
      exact ⟨x, y, s1, e1, ih _ _ _ _ hg⟩
    | ior =>
      obtain ⟨x, y, s1, e1, hg⟩ := hw
      dsimp only [mm_one]
      exact ⟨x, y, s1, e1, ih _ _ _ _ hg⟩
    | ixor =>
      obtain ⟨x, y, s1, e1, hg⟩ := hw
      dsimp only [mm_one]
      exact ⟨x, y, s1, e1, ih _ _ _ _ hg⟩
    | ishl =>
      obtain ⟨x, y, s1, e1, hg⟩ := hw
      dsimp only [mm_one]
      exact ⟨x, y, s1, e1, ih _ _ _ _ hg⟩
    | ishr =>
      obtain ⟨x, y, s1, e1, hg⟩ := hw
      dsimp only [mm_one]
      exact ⟨x, y, s1, e1, ih _ _ _ _ hg⟩
    | idiv =>
      obtain ⟨x, y, s1, e1, e2, hg⟩ := hw
      dsimp only [mm_one]
      exact ⟨x, y, s1, e1, e2, ih _ _ _ _ hg⟩
    | irem =>
      obtain ⟨x, y, s1, e1, e2, hg⟩ := hw
      dsimp only [mm_one]
      exact ⟨x, y, s1, e1, e2, ih _ _ _ _ hg⟩
    | ineg =>
      obtain ⟨x, s1, e1, hg⟩ := hw
      dsimp only [mm_one]
      exact ⟨x, s1, e1, ih _ _ _ _ hg⟩
    | dup =>
      obtain ⟨x, s1, e1, hg⟩ := hw
      dsimp only [mm_one]
      exact ⟨x, s1, e1, ih _ _ _ _ hg⟩
    | pop =>
      obtain ⟨x, s1, e1, hg⟩ := hw
      dsimp only [mm_one]
      exact ⟨x, s1, e1, ih _ _ _ _ hg⟩
    | dup2 =>
      obtain ⟨x, y, s1, e1, hg⟩ := hw
      dsimp only [mm_one]
      exact ⟨x, y, s1, e1, ih _ _ _ _ hg⟩
    | getstatic v =>
      obtain ⟨e1, hg⟩ := hw
      dsimp only [mm_one]
      exact ⟨e1, ih _ _ _ _ hg⟩
    | getfield v =>
      obtain ⟨x1, x2, x3, s1, e1, e2, e3, hg⟩ := hw
      dsimp only [mm_one]
      exact ⟨x1, x2, x3, s1, e1, e2, e3, ih _ _ _ _ hg⟩
    | baload =>
      obtain ⟨x1, x2, s1, x3, e1, e2, e3, hg⟩ := hw
      dsimp only [mm_one]
      exact ⟨x1, x2, s1, x3, e1, e2, e3, ih _ _ _ _ hg⟩
    | aaload =>
      obtain ⟨x1, x2, s1, x3, x4, e1, e2, e3, hg⟩ := hw
      dsimp only [mm_one]
      exact ⟨x1, x2, s1, x3, x4, e1, e2, e3, ih _ _ _ _ hg⟩
    | putfield v =>
      obtain ⟨x1, x2, x3, s1, e1, e2, e3, e4, hg⟩ := hw
      dsimp only [mm_one]
      exact ⟨x1, x2, x3, s1, e1, e2, e3, e4, ih _ _ _ _ hg⟩
    | iastore =>
      obtain ⟨x1, x2, x3, s1, x4, e1, e2, e3, hg⟩ := hw
      dsimp only [mm_one]
      exact ⟨x1, x2, x3, s1, x4, e1, e2, e3, ih _ _ _ _ hg⟩
    | bastore =>
      obtain ⟨x1, x2, x3, s1, x4, e1, e2, e3, hg⟩ := hw
      dsimp only [mm_one]
      exact ⟨x1, x2, x3, s1, x4, e1, e2, e3, ih _ _ _ _ hg⟩
    | aastore =>
      obtain ⟨x1, x2, x3, s1, x4, x5, e1, e2, e3, e4, hg⟩ := hw
      dsimp only [mm_one]
      exact ⟨x1, x2, x3, s1, x4, x5, e1, e2, e3, e4, ih _ _ _ _ hg⟩
    | new v =>
      obtain ⟨e1, e2, hg⟩ := hw
      dsimp only [mm_one]
      exact ⟨e1, e2, ih _ _ _ _ hg⟩
    | newarray v =>
      obtain ⟨x, s1, e1, e2, e3, e4, e5, e6, hg⟩ := hw
      dsimp only [mm_one]
      exact ⟨x, s1, e1, e2, e3, e4, e5, e6, ih _ _ _ _ hg⟩
    | anewarray v =>
      obtain ⟨x, s1, e1, e3, e4, e5, e6, hg⟩ := hw
      dsimp only [mm_one]
      exact ⟨x, s1, e1, e3, e4, e5, e6, ih _ _ _ _ hg⟩
    | multianewarray v w =>
      obtain ⟨x, y, s1, e1, e2, e3, e4, e5, e6, e7, hg⟩ := hw
      dsimp only [mm_one]
      exact ⟨x, y, s1, e1, e2, e3, e4, e5, e6, e7, ih _ _ _ _ hg⟩
    | ifCond q v =>
      obtain ⟨x, s1, e1, g1, g2⟩ := hw
      dsimp only [mm_one]
      exact ⟨x, s1, e1, fun z => ih _ _ _ _ (g1 z), fun z => ih _ _ _ _ (g2 z)⟩
    | if_icmp q v =>
      obtain ⟨x, y, s1, e1, g1, g2⟩ := hw
      dsimp only [mm_one]
      exact ⟨x, y, s1, e1, fun z => ih _ _ _ _ (g1 z), fun z => ih _ _ _ _ (g2 z)⟩
    | tableswitch dd lo hi offs =>
      obtain ⟨x, s1, e1, g1, g2⟩ := hw
      dsimp only [mm_one]
      exact ⟨x, s1, e1, fun z => (by obtain ⟨t, e2, g⟩ := g1 z; exact ⟨t, e2, ih _ _ _ _ g⟩), fun z => (by obtain ⟨o, t, e2, e3, g⟩ := g2 z; exact ⟨o, t, e2, e3, ih _ _ _ _ g⟩)⟩
    | iaload =>
      obtain ⟨i, r, s1, e1, ⟨e2, e3, g⟩ | ⟨q, xs, e2, e3, e4, g⟩⟩ := hw
      · exact ⟨i, r, s1, e1, Or.inl ⟨e2, e3, ih _ _ _ _ g⟩⟩
      · exact ⟨i, r, s1, e1, Or.inr ⟨q, xs, e2, e3, e4, ih _ _ _ _ g⟩⟩
    | arraylength =>
      obtain ⟨r, s1, e1, ⟨e2, g⟩ | ⟨q, xs, e2, e3, g⟩⟩ := hw
      · exact ⟨r, s1, e1, Or.inl ⟨e2, ih _ _ _ _ g⟩⟩
      · exact ⟨r, s1, e1, Or.inr ⟨q, xs, e2, e3, ih _ _ _ _ g⟩⟩
    | invokevirtual v =>
      obtain ⟨as, r, s1, fs, ci, rv, h1, e1, e2, e3, e4, e5, e6, e7, e8, e9, e10, hg⟩ := hw
      exact ⟨as, r, s1, fs, ci, rv, h1, e1, e2, e3, e4, e5, hC _ _ _ _ _ e6, e7, e8, e9, e10, ih _ _ _ _ hg⟩
    | invokestatic v =>
      dsimp only [mm_one] at hw ⊢
      split at hw
      · obtain ⟨x, s1, e1, e2, e3, e4, hg⟩ := hw
        exact ⟨x, s1, e1, e2, e3, e4, ih _ _ _ _ hg⟩
      · obtain ⟨x, y, s1, e1, e2, e3, e4, hg⟩ := hw
        exact ⟨x, y, s1, e1, e2, e3, e4, ih _ _ _ _ hg⟩
      · obtain ⟨x, y, s1, e1, e2, e3, e4, hg⟩ := hw
        exact ⟨x, y, s1, e1, e2, e3, e4, ih _ _ _ _ hg⟩
      · obtain ⟨as, s1, rv, h1, e1, e2, e3, e6, e7, e8, e9, e10, hg⟩ := hw
        exact ⟨as, s1, rv, h1, e1, e2, e3, hC _ _ _ _ _ e6, e7, e8, e9, e10, ih _ _ _ _ hg⟩
    | invokespecial v =>
      dsimp only [mm_one] at hw ⊢
      split at hw
      · obtain ⟨r, s1, e1, e2, hg⟩ := hw
        exact ⟨r, s1, e1, e2, ih _ _ _ _ hg⟩
      · obtain ⟨as, r, s1, h1, e1, e2, e3, e6, e7, e8, e9, e10, hg⟩ := hw
        exact ⟨as, r, s1, h1, e1, e2, e3, hC _ _ _ _ _ e6, e7, e8, e9, e10, ih _ _ _ _ hg⟩
    | ireturn => exact hw
    | return_ => exact hw
    | _ => exact False.elim hw
theorem mm_up1 {ro : Nat → List Int32} : ∀ (d y : Nat) (as : List mm_V) (h : mm_H) (r : Option Int32) (h' : mm_H), mm_EvT mm_mt ro d y as h r h' → mm_EvT mm_mt ro (d + 1) y as h r h'
  | 0, _, _, _, _, _, hh => False.elim hh
  | d + 1, y, as, h, r, h', hh => by
    obtain ⟨M, h1, h2, n, hw⟩ := hh
    exact ⟨M, h1, h2, n, mm_mono (fun y as h r h' z => mm_up1 d y as h r h' z) _ _ _ _ _ hw⟩
theorem mm_up {ro : Nat → List Int32} (d : Nat) {k y : Nat} {as : List mm_V} {h : mm_H} {r : Option Int32} {h' : mm_H} (hh : mm_EvT mm_mt ro k y as h r h') : mm_EvT mm_mt ro (d + k) y as h r h' := by
  induction d with
  | zero => rw [Nat.zero_add]; exact hh
  | succ d ih => rw [show d + 1 + k = d + k + 1 by omega]; exact mm_up1 _ _ _ _ _ _ ih
theorem qq_up {xs : List Int32} {k d y : Nat} {as : List qq_V} {S : qq_S} {r : Option Int} {S' : qq_S} (hk : k ≤ d) (hh : qq_E xs k y as S r S') : qq_E xs d y as S r S' := by
  have h := mm_up (d - k) hh
  rw [Nat.sub_add_cancel hk] at h
  exact h
/-! The law's first instructions: two objects made; then its loop over the script. -/
theorem mm_first {xs : List Int32} {d : Nat} {K : Option Int32 → mm_H → Prop} {n : Nat} (h : mm_wp (mm_ro xs) (mm_EvT mm_mt (mm_ro xs) (d + 6)) (some .boolean) mm_kl 600000 7302250 K n 18 [some (.inr (some 0)), some (.inr (some 3)), some (.inr (some 115)), some (.inl 0)] [] (qq_e qq_0)) : mm_wp (mm_ro xs) (mm_EvT mm_mt (mm_ro xs) (d + 6)) (some .boolean) mm_kl 600000 7302250 K (n + 10) 0 (mm_ent mm_law [.inr (some 0)]) [] [] := by
  have c1 : mm_EvT mm_mt (mm_ro xs) (d + 6) 84 [.inr (some 3)] [.inl (7, mm_defs 7)] none qq_h1 := mm_up d (mm_x_ok 6 84 _ _ _ _ (mm_xeq_ok mm_new1))
  have c2 : mm_EvT mm_mt (mm_ro xs) (d + 6) 113 [.inr (some 115)] (qq_h1 ++ [.inl (8, mm_defs 8)]) none (qq_e qq_0) := mm_up d (mm_x_ok 6 113 _ _ _ _ (mm_xeq_ok mm_new2))
  have l1 : qq_h1.length = 112 := by decide +kernel
  have l2 : mm_sz qq_h1 = 1559 := by decide +kernel
  have l3 : mm_sz [(.inl (7, mm_defs 7) : mm_C)] = 10 := by decide +kernel
  have l4 : mm_sz (qq_h1 ++ [.inl (8, mm_defs 8)]) = 1591 := by decide +kernel
  refine ⟨_, _, _, _, _, _, rfl, And.intro (by decide) (And.intro (by decide) ?_)⟩
  refine ⟨_, _, _, _, _, _, rfl, Exists.intro _ (Exists.intro _ (And.intro rfl ?_))⟩
  refine ⟨_, _, _, _, _, _, rfl, Exists.intro [] (Exists.intro 3 (Exists.intro _ (Exists.intro qq_h1 (And.intro rfl (And.intro rfl (And.intro (by decide) (And.intro c1 (And.intro (by rw [l1]; decide) (And.intro (by rw [l2]; exact l3 ▸ (by decide)) (And.intro (by rw [l1]; decide) (And.intro (by rw [l2]; decide) ?_)))))))))))⟩
  refine ⟨_, _, _, _, _, _, rfl, Exists.intro _ (Exists.intro _ (And.intro rfl (And.intro (by decide) ?_)))⟩
  refine ⟨_, _, _, _, _, _, rfl, And.intro (by rw [l1]; decide) (And.intro (by rw [l2]; decide) ?_)⟩
  refine ⟨_, _, _, _, _, _, rfl, Exists.intro _ (Exists.intro _ (And.intro rfl ?_))⟩
  rw [l1]
  refine ⟨_, _, _, _, _, _, rfl, Exists.intro [] (Exists.intro 115 (Exists.intro _ (Exists.intro (qq_e qq_0) (And.intro rfl (And.intro rfl (And.intro (by decide) (And.intro c2 (And.intro (by rw [qq_len, List.length_append, l1]; decide) (And.intro (by rw [qq_size]; exact l4 ▸ (by decide)) (And.intro (by rw [qq_len]; decide) (And.intro (by rw [qq_size]; decide) ?_)))))))))))⟩
  refine ⟨_, _, _, _, _, _, rfl, Exists.intro _ (Exists.intro _ (And.intro rfl (And.intro (by decide) ?_)))⟩
  refine ⟨_, _, _, _, _, _, rfl, ?_⟩
  refine ⟨_, _, _, _, _, _, rfl, Exists.intro _ (Exists.intro _ (And.intro rfl (And.intro (by decide) ?_)))⟩
  exact h
/-- the law's loop, from its head -/
def qq_Goal : Prop := ∀ xs : List Int32, xs.length ≤ 2048 → qq_p xs 30 (some .boolean) mm_kl (fun r _ => r = some 1) 18 [some (.inr (0, none)), some (.inr (3, none)), some (.inr (115, none)), some (.inl 0)] [] qq_0
def mm_KK : Option Int32 → mm_H → Prop := fun r h => ∃ r2 S2, r = r2.map Int32.ofInt ∧ h = qq_e S2 ∧ r2 = some (1 : Int)
theorem mm_goalK : ∀ r h, mm_KK r h → r = some 1 ∧ h.length ≤ 600000 ∧ mm_sz h ≤ 7302250 := fun r h hh => by
  obtain ⟨r2, S2, e1, e2, e3⟩ := hh
  rw [e1, e2, e3, qq_len, qq_size]
  exact ⟨rfl, by omega, by omega⟩
theorem mm_goal_of (G : qq_Goal) : mm_Goal mm_KK := fun xs hxs => by
  obtain ⟨n, hn⟩ := G xs hxs
  exact ⟨n + 10, mm_first (d := 24) hn⟩
end
section
def sp_0 : qq_P := fun _ _ _ => none
theorem sp_0_ok {xs : List Int32} (_ : xs.length ≤ 2048) (d : Nat) : qq_ok xs (d + 0) sp_0 := fun _ _ _ _ _ _ h => by cases h
/-- the direction of a step, -1: none of the eight -/
def zz_dir (dx dy : Int) : Int := if dx = 0 then (if dy = 0 then -1 else if 0 < dy then 2 else 6) else if dy = 0 then (if 0 < dx then 0 else 4) else if dx = dy then (if 0 < dx then 1 else 5) else if dx = -dy then (if 0 < dx then 7 else 3) else -1
def zz_b (p : Prop) [Decidable p] : Int := if p then 1 else 0
set_option maxRecDepth 20000 in
theorem f110 {xs : List Int32} (hxs : xs.length ≤ 2048) (d : Nat) (S : qq_S) (a : Int) (lo : Int) (hi : Int) (hp : qq_in a ∧ qq_in lo ∧ qq_in hi) : qq_E xs (d + 1) 110 [.inl a, .inl lo, .inl hi] S (some (zz_b (lo ≤ a ∧ a ≤ hi))) (S) := by
  have h : qq_p xs (d + 0) (mm_mr mm_m110) (mm_mk mm_m110) (fun r S' => r = some (zz_b (lo ≤ a ∧ a ≤ hi)) ∧ S' = S) 0 (qq_ent mm_m110 [.inl a, .inl lo, .inl hi]) [] S := by
    refine qq_fsound hxs (sp_0_ok hxs (d + 0)) [] 200 ?_
    repeat' first | apply And.intro | intro _
    all_goals (first | rfl | omega | grind [qq_in, zz_b, zz_dir])
  obtain ⟨r, S', hE, e1, e2⟩ := qq_call_of (y := 110) rfl (Nat.le_of_ble_eq_true rfl) h
  rw [e1, e2] at hE
  exact hE
set_option maxRecDepth 20000 in
theorem f114 {xs : List Int32} (hxs : xs.length ≤ 2048) (d : Nat) (S : qq_S) (a : Int) (lo : Int) (hi : Int) (hp : qq_in a ∧ qq_in lo ∧ qq_in hi) : qq_E xs (d + 1) 114 [.inl a, .inl lo, .inl hi] S (some (zz_b (lo ≤ a ∧ a ≤ hi))) (S) := by
  have h : qq_p xs (d + 0) (mm_mr mm_m114) (mm_mk mm_m114) (fun r S' => r = some (zz_b (lo ≤ a ∧ a ≤ hi)) ∧ S' = S) 0 (qq_ent mm_m114 [.inl a, .inl lo, .inl hi]) [] S := by
    refine qq_fsound hxs (sp_0_ok hxs (d + 0)) [] 200 ?_
    repeat' first | apply And.intro | intro _
    all_goals (first | rfl | omega | grind [qq_in, zz_b, zz_dir])
  obtain ⟨r, S', hE, e1, e2⟩ := qq_call_of (y := 114) rfl (Nat.le_of_ble_eq_true rfl) h
  rw [e1, e2] at hE
  exact hE
set_option maxRecDepth 20000 in
theorem f108 {xs : List Int32} (hxs : xs.length ≤ 2048) (d : Nat) (S : qq_S) (a : Int) (hp : True) : qq_E xs (d + 1) 108 [.inr (3, none), .inl a] S (some (a)) (qq_u S 3 9 a) := by
  have h : qq_p xs (d + 0) (mm_mr mm_m108) (mm_mk mm_m108) (fun r S' => r = some (a) ∧ S' = qq_u S 3 9 a) 0 (qq_ent mm_m108 [.inr (3, none), .inl a]) [] S := by
    refine qq_fsound hxs (sp_0_ok hxs (d + 0)) [] 200 ?_
    repeat' first | apply And.intro | intro _
    all_goals (first | rfl | omega | grind [qq_in, zz_b, zz_dir])
  obtain ⟨r, S', hE, e1, e2⟩ := qq_call_of (y := 108) rfl (Nat.le_of_ble_eq_true rfl) h
  rw [e1, e2] at hE
  exact hE
set_option maxRecDepth 20000 in
theorem f109 {xs : List Int32} (hxs : xs.length ≤ 2048) (d : Nat) (S : qq_S) (a : Int) (hp : True) : qq_E xs (d + 1) 109 [.inr (3, none), .inl a] S (some (a)) (qq_u S 3 9 0) := by
  have h : qq_p xs (d + 0) (mm_mr mm_m109) (mm_mk mm_m109) (fun r S' => r = some (a) ∧ S' = qq_u S 3 9 0) 0 (qq_ent mm_m109 [.inr (3, none), .inl a]) [] S := by
    refine qq_fsound hxs (sp_0_ok hxs (d + 0)) [] 200 ?_
    repeat' first | apply And.intro | intro _
    all_goals (first | rfl | omega | grind [qq_in, zz_b, zz_dir])
  obtain ⟨r, S', hE, e1, e2⟩ := qq_call_of (y := 109) rfl (Nat.le_of_ble_eq_true rfl) h
  rw [e1, e2] at hE
  exact hE
set_option maxRecDepth 20000 in
theorem f115 {xs : List Int32} (hxs : xs.length ≤ 2048) (d : Nat) (S : qq_S) (a : Int) (hp : qq_in a) : qq_E xs (d + 1) 115 [.inr (115, none), .inl a] S (some (a)) (qq_u S 115 0 (if a < 0 then a else 0)) := by
  have h : qq_p xs (d + 0) (mm_mr mm_m115) (mm_mk mm_m115) (fun r S' => r = some (a) ∧ S' = qq_u S 115 0 (if a < 0 then a else 0)) 0 (qq_ent mm_m115 [.inr (115, none), .inl a]) [] S := by
    refine qq_fsound hxs (sp_0_ok hxs (d + 0)) [] 200 ?_
    repeat' first | apply And.intro | intro _
    all_goals (first | rfl | omega | grind [qq_in, zz_b, zz_dir])
  obtain ⟨r, S', hE, e1, e2⟩ := qq_call_of (y := 115) rfl (Nat.le_of_ble_eq_true rfl) h
  rw [e1, e2] at hE
  exact hE
set_option maxRecDepth 20000 in
theorem f31 {xs : List Int32} (hxs : xs.length ≤ 2048) (d : Nat) (S : qq_S) (a : Int) (hp : qq_in a ∧ qq_in (S 4 0)) : qq_E xs (d + 1) 31 [.inr (4, none), .inl a] S (some (zz_b (0 ≤ a ∧ a < S 4 0))) (S) := by
  have h : qq_p xs (d + 0) (mm_mr mm_m31) (mm_mk mm_m31) (fun r S' => r = some (zz_b (0 ≤ a ∧ a < S 4 0)) ∧ S' = S) 0 (qq_ent mm_m31 [.inr (4, none), .inl a]) [] S := by
    refine qq_fsound hxs (sp_0_ok hxs (d + 0)) [] 200 ?_
    repeat' first | apply And.intro | intro _
    all_goals (first | rfl | omega | grind [qq_in, zz_b, zz_dir])
  obtain ⟨r, S', hE, e1, e2⟩ := qq_call_of (y := 31) rfl (Nat.le_of_ble_eq_true rfl) h
  rw [e1, e2] at hE
  exact hE
set_option maxRecDepth 20000 in
theorem f32 {xs : List Int32} (hxs : xs.length ≤ 2048) (d : Nat) (S : qq_S) (a : Int) (hp : qq_in a ∧ qq_in (S 4 1)) : qq_E xs (d + 1) 32 [.inr (4, none), .inl a] S (some (zz_b (0 ≤ a ∧ a < S 4 1))) (S) := by
  have h : qq_p xs (d + 0) (mm_mr mm_m32) (mm_mk mm_m32) (fun r S' => r = some (zz_b (0 ≤ a ∧ a < S 4 1)) ∧ S' = S) 0 (qq_ent mm_m32 [.inr (4, none), .inl a]) [] S := by
    refine qq_fsound hxs (sp_0_ok hxs (d + 0)) [] 200 ?_
    repeat' first | apply And.intro | intro _
    all_goals (first | rfl | omega | grind [qq_in, zz_b, zz_dir])
  obtain ⟨r, S', hE, e1, e2⟩ := qq_call_of (y := 32) rfl (Nat.le_of_ble_eq_true rfl) h
  rw [e1, e2] at hE
  exact hE
set_option maxRecDepth 20000 in
theorem f107 {xs : List Int32} (hxs : xs.length ≤ 2048) (d : Nat) (S : qq_S) (hp : True) : qq_E xs (d + 1) 107 [.inr (3, none)] S (some (S 3 9)) (S) := by
  have h : qq_p xs (d + 0) (mm_mr mm_m107) (mm_mk mm_m107) (fun r S' => r = some (S 3 9) ∧ S' = S) 0 (qq_ent mm_m107 [.inr (3, none)]) [] S := by
    refine qq_fsound hxs (sp_0_ok hxs (d + 0)) [] 200 ?_
    repeat' first | apply And.intro | intro _
    all_goals (first | rfl | omega | grind [qq_in, zz_b, zz_dir])
  obtain ⟨r, S', hE, e1, e2⟩ := qq_call_of (y := 107) rfl (Nat.le_of_ble_eq_true rfl) h
  rw [e1, e2] at hE
  exact hE
set_option maxRecDepth 20000 in
theorem f177 {xs : List Int32} (hxs : xs.length ≤ 2048) (d : Nat) (S : qq_S) (hp : True) : qq_E xs (d + 1) 177 [.inr (115, none)] S (some (S 115 0)) (S) := by
  have h : qq_p xs (d + 0) (mm_mr mm_m177) (mm_mk mm_m177) (fun r S' => r = some (S 115 0) ∧ S' = S) 0 (qq_ent mm_m177 [.inr (115, none)]) [] S := by
    refine qq_fsound hxs (sp_0_ok hxs (d + 0)) [] 200 ?_
    repeat' first | apply And.intro | intro _
    all_goals (first | rfl | omega | grind [qq_in, zz_b, zz_dir])
  obtain ⟨r, S', hE, e1, e2⟩ := qq_call_of (y := 177) rfl (Nat.le_of_ble_eq_true rfl) h
  rw [e1, e2] at hE
  exact hE
set_option maxRecDepth 20000 in
theorem f45_48 {xs : List Int32} (hxs : xs.length ≤ 2048) (d : Nat) (S : qq_S) (hp : True) : qq_E xs (d + 1) 45 [.inr (48, none)] S (some (S 48 0 * S 48 1)) (S) := by
  have h : qq_p xs (d + 0) (mm_mr mm_m45) (mm_mk mm_m45) (fun r S' => r = some (S 48 0 * S 48 1) ∧ S' = S) 0 (qq_ent mm_m45 [.inr (48, none)]) [] S := by
    refine qq_fsound hxs (sp_0_ok hxs (d + 0)) [] 200 ?_
    repeat' first | apply And.intro | intro _
    all_goals (first | rfl | omega | grind [qq_in, zz_b, zz_dir])
  obtain ⟨r, S', hE, e1, e2⟩ := qq_call_of (y := 45) rfl (Nat.le_of_ble_eq_true rfl) h
  rw [e1, e2] at hE
  exact hE
set_option maxRecDepth 20000 in
theorem f46_48 {xs : List Int32} (hxs : xs.length ≤ 2048) (d : Nat) (S : qq_S) (a : Int) (hp : 0 ≤ a ∧ a < 10 ∧ qq_in (S 49 a.toNat)) : qq_E xs (d + 1) 46 [.inr (48, none), .inl a] S (some (zz_b (¬ S 49 a.toNat = -1))) (S) := by
  have h : qq_p xs (d + 0) (mm_mr mm_m46) (mm_mk mm_m46) (fun r S' => r = some (zz_b (¬ S 49 a.toNat = -1)) ∧ S' = S) 0 (qq_ent mm_m46 [.inr (48, none), .inl a]) [] S := by
    refine qq_fsound hxs (sp_0_ok hxs (d + 0)) [] 200 ?_
    repeat' first | apply And.intro | intro _
    all_goals (first | rfl | omega | grind [qq_in, zz_b, zz_dir])
  obtain ⟨r, S', hE, e1, e2⟩ := qq_call_of (y := 46) rfl (Nat.le_of_ble_eq_true rfl) h
  rw [e1, e2] at hE
  exact hE
set_option maxRecDepth 20000 in
theorem f52_48 {xs : List Int32} (hxs : xs.length ≤ 2048) (d : Nat) (S : qq_S) (a : Int) (b : Int) (hp : 0 ≤ a ∧ a < 10 ∧ 0 ≤ b ∧ b < 10 ∧ (-8 ≤ S 49 a.toNat ∧ S 49 a.toNat ≤ 8 ∧ -8 ≤ S 49 b.toNat ∧ S 49 b.toNat ≤ 8 ∧ -8 ≤ S 50 a.toNat ∧ S 50 a.toNat ≤ 8 ∧ -8 ≤ S 50 b.toNat ∧ S 50 b.toNat ≤ 8)) : qq_E xs (d + 1) 52 [.inr (48, none), .inl a, .inl b] S (some (zz_dir (S 49 b.toNat - S 49 a.toNat) (S 50 b.toNat - S 50 a.toNat))) (S) := by
  have h : qq_p xs (d + 0) (mm_mr mm_m52) (mm_mk mm_m52) (fun r S' => r = some (zz_dir (S 49 b.toNat - S 49 a.toNat) (S 50 b.toNat - S 50 a.toNat)) ∧ S' = S) 0 (qq_ent mm_m52 [.inr (48, none), .inl a, .inl b]) [] S := by
    refine qq_fsound hxs (sp_0_ok hxs (d + 0)) [] 200 ?_
    repeat' first | apply And.intro | intro _
    all_goals (first | rfl | omega | grind [qq_in, zz_b, zz_dir])
  obtain ⟨r, S', hE, e1, e2⟩ := qq_call_of (y := 52) rfl (Nat.le_of_ble_eq_true rfl) h
  rw [e1, e2] at hE
  exact hE
set_option maxRecDepth 20000 in
theorem f45_56 {xs : List Int32} (hxs : xs.length ≤ 2048) (d : Nat) (S : qq_S) (hp : True) : qq_E xs (d + 1) 45 [.inr (56, none)] S (some (S 56 0 * S 56 1)) (S) := by
  have h : qq_p xs (d + 0) (mm_mr mm_m45) (mm_mk mm_m45) (fun r S' => r = some (S 56 0 * S 56 1) ∧ S' = S) 0 (qq_ent mm_m45 [.inr (56, none)]) [] S := by
    refine qq_fsound hxs (sp_0_ok hxs (d + 0)) [] 200 ?_
    repeat' first | apply And.intro | intro _
    all_goals (first | rfl | omega | grind [qq_in, zz_b, zz_dir])
  obtain ⟨r, S', hE, e1, e2⟩ := qq_call_of (y := 45) rfl (Nat.le_of_ble_eq_true rfl) h
  rw [e1, e2] at hE
  exact hE
set_option maxRecDepth 20000 in
theorem f46_56 {xs : List Int32} (hxs : xs.length ≤ 2048) (d : Nat) (S : qq_S) (a : Int) (hp : 0 ≤ a ∧ a < 10 ∧ qq_in (S 57 a.toNat)) : qq_E xs (d + 1) 46 [.inr (56, none), .inl a] S (some (zz_b (¬ S 57 a.toNat = -1))) (S) := by
  have h : qq_p xs (d + 0) (mm_mr mm_m46) (mm_mk mm_m46) (fun r S' => r = some (zz_b (¬ S 57 a.toNat = -1)) ∧ S' = S) 0 (qq_ent mm_m46 [.inr (56, none), .inl a]) [] S := by
    refine qq_fsound hxs (sp_0_ok hxs (d + 0)) [] 200 ?_
    repeat' first | apply And.intro | intro _
    all_goals (first | rfl | omega | grind [qq_in, zz_b, zz_dir])
  obtain ⟨r, S', hE, e1, e2⟩ := qq_call_of (y := 46) rfl (Nat.le_of_ble_eq_true rfl) h
  rw [e1, e2] at hE
  exact hE
set_option maxRecDepth 20000 in
theorem f52_56 {xs : List Int32} (hxs : xs.length ≤ 2048) (d : Nat) (S : qq_S) (a : Int) (b : Int) (hp : 0 ≤ a ∧ a < 10 ∧ 0 ≤ b ∧ b < 10 ∧ (-8 ≤ S 57 a.toNat ∧ S 57 a.toNat ≤ 8 ∧ -8 ≤ S 57 b.toNat ∧ S 57 b.toNat ≤ 8 ∧ -8 ≤ S 58 a.toNat ∧ S 58 a.toNat ≤ 8 ∧ -8 ≤ S 58 b.toNat ∧ S 58 b.toNat ≤ 8)) : qq_E xs (d + 1) 52 [.inr (56, none), .inl a, .inl b] S (some (zz_dir (S 57 b.toNat - S 57 a.toNat) (S 58 b.toNat - S 58 a.toNat))) (S) := by
  have h : qq_p xs (d + 0) (mm_mr mm_m52) (mm_mk mm_m52) (fun r S' => r = some (zz_dir (S 57 b.toNat - S 57 a.toNat) (S 58 b.toNat - S 58 a.toNat)) ∧ S' = S) 0 (qq_ent mm_m52 [.inr (56, none), .inl a, .inl b]) [] S := by
    refine qq_fsound hxs (sp_0_ok hxs (d + 0)) [] 200 ?_
    repeat' first | apply And.intro | intro _
    all_goals (first | rfl | omega | grind [qq_in, zz_b, zz_dir])
  obtain ⟨r, S', hE, e1, e2⟩ := qq_call_of (y := 52) rfl (Nat.le_of_ble_eq_true rfl) h
  rw [e1, e2] at hE
  exact hE
set_option maxRecDepth 20000 in
theorem f64 {xs : List Int32} (hxs : xs.length ≤ 2048) (d : Nat) (S : qq_S) (a : Int) (b : Int) (hp : -100 ≤ a ∧ a ≤ 100 ∧ -100 ≤ b ∧ b ≤ 100) : qq_E xs (d + 1) 64 [.inl a, .inl b] S (some (if 4 < qq_and (a - b) 7 then 8 - qq_and (a - b) 7 else qq_and (a - b) 7)) (S) := by
  have h : qq_p xs (d + 0) (mm_mr mm_m64) (mm_mk mm_m64) (fun r S' => r = some (if 4 < qq_and (a - b) 7 then 8 - qq_and (a - b) 7 else qq_and (a - b) 7) ∧ S' = S) 0 (qq_ent mm_m64 [.inl a, .inl b]) [] S := by
    refine qq_fsound hxs (sp_0_ok hxs (d + 0)) [] 200 ?_
    repeat' first | apply And.intro | intro _
    all_goals (first | rfl | omega | grind [qq_in, qq_and, qq_inT])
  obtain ⟨r, S', hE, e1, e2⟩ := qq_call_of (y := 64) rfl (Nat.le_of_ble_eq_true rfl) h
  rw [e1, e2] at hE
  exact hE
def sp_1 : qq_P := fun y as S => match y, as with
  | 110, [.inl a, .inl lo, .inl hi] => some (qq_in a ∧ qq_in lo ∧ qq_in hi, some (zz_b (lo ≤ a ∧ a ≤ hi)), S)
  | 114, [.inl a, .inl lo, .inl hi] => some (qq_in a ∧ qq_in lo ∧ qq_in hi, some (zz_b (lo ≤ a ∧ a ≤ hi)), S)
  | 108, [.inr (3, none), .inl a] => some (True, some (a), qq_u S 3 9 a)
  | 109, [.inr (3, none), .inl a] => some (True, some (a), qq_u S 3 9 0)
  | 115, [.inr (115, none), .inl a] => some (qq_in a, some (a), qq_u S 115 0 (if a < 0 then a else 0))
  | 31, [.inr (4, none), .inl a] => some (qq_in a ∧ qq_in (S 4 0), some (zz_b (0 ≤ a ∧ a < S 4 0)), S)
  | 32, [.inr (4, none), .inl a] => some (qq_in a ∧ qq_in (S 4 1), some (zz_b (0 ≤ a ∧ a < S 4 1)), S)
  | 107, [.inr (3, none)] => some (True, some (S 3 9), S)
  | 177, [.inr (115, none)] => some (True, some (S 115 0), S)
  | 45, [.inr (48, none)] => some (True, some (S 48 0 * S 48 1), S)
  | 46, [.inr (48, none), .inl a] => some (0 ≤ a ∧ a < 10 ∧ qq_in (S 49 a.toNat), some (zz_b (¬ S 49 a.toNat = -1)), S)
  | 52, [.inr (48, none), .inl a, .inl b] => some (0 ≤ a ∧ a < 10 ∧ 0 ≤ b ∧ b < 10 ∧ (-8 ≤ S 49 a.toNat ∧ S 49 a.toNat ≤ 8 ∧ -8 ≤ S 49 b.toNat ∧ S 49 b.toNat ≤ 8 ∧ -8 ≤ S 50 a.toNat ∧ S 50 a.toNat ≤ 8 ∧ -8 ≤ S 50 b.toNat ∧ S 50 b.toNat ≤ 8), some (zz_dir (S 49 b.toNat - S 49 a.toNat) (S 50 b.toNat - S 50 a.toNat)), S)
  | 45, [.inr (56, none)] => some (True, some (S 56 0 * S 56 1), S)
  | 46, [.inr (56, none), .inl a] => some (0 ≤ a ∧ a < 10 ∧ qq_in (S 57 a.toNat), some (zz_b (¬ S 57 a.toNat = -1)), S)
  | 52, [.inr (56, none), .inl a, .inl b] => some (0 ≤ a ∧ a < 10 ∧ 0 ≤ b ∧ b < 10 ∧ (-8 ≤ S 57 a.toNat ∧ S 57 a.toNat ≤ 8 ∧ -8 ≤ S 57 b.toNat ∧ S 57 b.toNat ≤ 8 ∧ -8 ≤ S 58 a.toNat ∧ S 58 a.toNat ≤ 8 ∧ -8 ≤ S 58 b.toNat ∧ S 58 b.toNat ≤ 8), some (zz_dir (S 57 b.toNat - S 57 a.toNat) (S 58 b.toNat - S 58 a.toNat)), S)
  | 64, [.inl a, .inl b] => some (-100 ≤ a ∧ a ≤ 100 ∧ -100 ≤ b ∧ b ≤ 100, some (if 4 < qq_and (a - b) 7 then 8 - qq_and (a - b) 7 else qq_and (a - b) 7), S)
  | _, _ => none
theorem sp_1_ok {xs : List Int32} (hxs : xs.length ≤ 2048) (d : Nat) : qq_ok xs (d + 1) sp_1 := by
  intro y as S pre r S2 h hp
  unfold sp_1 at h
  split at h
  · cases h; exact f110 hxs (d + 0) S _ _ _ hp
  · cases h; exact f114 hxs (d + 0) S _ _ _ hp
  · cases h; exact f108 hxs (d + 0) S _ hp
  · cases h; exact f109 hxs (d + 0) S _ hp
  · cases h; exact f115 hxs (d + 0) S _ hp
  · cases h; exact f31 hxs (d + 0) S _ hp
  · cases h; exact f32 hxs (d + 0) S _ hp
  · cases h; exact f107 hxs (d + 0) S hp
  · cases h; exact f177 hxs (d + 0) S hp
  · cases h; exact f45_48 hxs (d + 0) S hp
  · cases h; exact f46_48 hxs (d + 0) S _ hp
  · cases h; exact f52_48 hxs (d + 0) S _ _ hp
  · cases h; exact f45_56 hxs (d + 0) S hp
  · cases h; exact f46_56 hxs (d + 0) S _ hp
  · cases h; exact f52_56 hxs (d + 0) S _ _ hp
  · cases h; exact f64 hxs (d + 0) S _ _ hp
  · cases h
set_option maxRecDepth 20000 in
theorem f111 {xs : List Int32} (hxs : xs.length ≤ 2048) (d : Nat) (S : qq_S) (a : Int) (hp : qq_in a) : qq_E xs (d + 2) 111 [.inl a] S (some (zz_b (0 ≤ a ∧ a ≤ 100))) (S) := by
  have h : qq_p xs (d + 1) (mm_mr mm_m111) (mm_mk mm_m111) (fun r S' => r = some (zz_b (0 ≤ a ∧ a ≤ 100)) ∧ S' = S) 0 (qq_ent mm_m111 [.inl a]) [] S := by
    refine qq_fsound hxs (sp_1_ok hxs (d + 0)) [] 200 ?_
    repeat' first | apply And.intro | intro _
    all_goals (first | rfl | omega | grind [qq_in, zz_b, zz_dir])
  obtain ⟨r, S', hE, e1, e2⟩ := qq_call_of (y := 111) rfl (Nat.le_of_ble_eq_true rfl) h
  rw [e1, e2] at hE
  exact hE
set_option maxRecDepth 20000 in
theorem f116 {xs : List Int32} (hxs : xs.length ≤ 2048) (d : Nat) (S : qq_S) (a : Int) (hp : qq_in a ∧ 0 ≤ S 115 1 ∧ S 115 1 ≤ 10) : qq_E xs (d + 2) 116 [.inr (115, none), .inl a] S (some (zz_b (0 ≤ a ∧ a < S 115 1))) (S) := by
  have h : qq_p xs (d + 1) (mm_mr mm_m116) (mm_mk mm_m116) (fun r S' => r = some (zz_b (0 ≤ a ∧ a < S 115 1)) ∧ S' = S) 0 (qq_ent mm_m116 [.inr (115, none), .inl a]) [] S := by
    refine qq_fsound hxs (sp_1_ok hxs (d + 0)) [] 200 ?_
    repeat' first | apply And.intro | intro _
    all_goals (first | rfl | omega | grind [qq_in, zz_b, zz_dir])
  obtain ⟨r, S', hE, e1, e2⟩ := qq_call_of (y := 116) rfl (Nat.le_of_ble_eq_true rfl) h
  rw [e1, e2] at hE
  exact hE
end
section
/-! The tie between the class's numbers and the reference's. -/
def qq_R (S : qq_S) (b n : Nat) : Nat → Nat → Int := fun l => if l < n then S (b + l) else fun _ => 0
theorem qq_R_u {S : qq_S} {b n q k : Nat} {x : Int} (h : q < b ∨ b + n ≤ q) : qq_R (qq_u S q k x) b n = qq_R S b n := by
  funext l
  unfold qq_R
  split
  · rw [qq_ueq (by omega)]
  · rfl
theorem qq_us {S : qq_S} {q k : Nat} {x : Int} : qq_u S q k x q k = x := by simp [qq_u]
theorem qq_un {S : qq_S} {q k q' k' : Nat} {x : Int} (h : q' ≠ q ∨ k' ≠ k) : qq_u S q k x q' k' = S q' k' := by
  unfold qq_u
  rw [if_neg (fun z => h.elim (fun y => y z.1) (fun y => y z.2))]
def zz_abs (x : Int) : Int := if 0 ≤ x then x else -x
/-- the true direction -/
def zz_td (dx dy : Int) : Int := if 1000 * zz_abs dy < 414 * zz_abs dx then (if 0 < dx then 0 else 4) else if 1000 * zz_abs dx < 414 * zz_abs dy then (if 0 < dy then 2 else 6) else if 0 < dx then (if 0 < dy then 1 else 7) else (if 0 < dy then 3 else 5)
def zz_half (dx dy : Int) : Int := if 0 < dy ∨ (dy = 0 ∧ 0 < dx) then 0 else 1
/-- a comes ahead of b round s -/
def zz_ahead (X Y : Nat → Int) (s a b : Nat) : Prop :=
  if zz_half (X a - X s) (Y a - Y s) = zz_half (X b - X s) (Y b - Y s) then
    (if (X a - X s) * (Y b - Y s) - (Y a - Y s) * (X b - X s) = 0 then a < b else 0 < (X a - X s) * (Y b - Y s) - (Y a - Y s) * (X b - X s))
  else zz_half (X a - X s) (Y a - Y s) < zz_half (X b - X s) (Y b - Y s)
def i_net (n n' L L' : Int) (X Y X' Y' : Nat → Int) : Prop :=
  (0 ≤ n ∧ n ≤ 10 ∧ n' = n ∧ 0 ≤ L ∧ L ≤ 6 ∧ L' = L) ∧ (∀ i : Nat, (i : Int) < n → 0 ≤ X i ∧ X i ≤ 1000 ∧ 0 ≤ Y i ∧ Y i ≤ 1000 ∧ X' i = X i ∧ Y' i = Y i) ∧ (∀ i j : Nat, (i : Int) < n → (j : Int) < n → X i = X j → Y i = Y j → i = j)
def i_line (n L : Int) (Z Z' : Nat → Int) (row rank : Nat → Nat → Int) (lof : Nat → Int) : Prop :=
  (∀ l : Nat, (l : Int) < L → 0 ≤ Z l ∧ Z l ≤ 10 ∧ Z' l = Z l ∧ (∀ i : Nat, (i : Int) < Z l → 0 ≤ row l i ∧ row l i < n ∧ lof (10 * l + i) = row l i ∧ rank l (row l i).toNat = i)) ∧
  (∀ l : Nat, l < 6 → L ≤ l → Z l = 0) ∧
  (∀ l s : Nat, l < 6 → s < 10 → rank l s = -1 ∨ (0 ≤ rank l s ∧ rank l s < Z l ∧ row l (rank l s).toNat = s))
/-- a and b stand one behind the other in some line -/
def i_led (L : Int) (Z : Nat → Int) (row : Nat → Nat → Int) (a b : Nat) : Prop :=
  ∃ l i : Nat, (l : Int) < L ∧ (i : Int) + 1 < Z l ∧ ((row l i = a ∧ row l (i + 1) = b) ∨ (row l i = b ∧ row l (i + 1) = a))
def i_edge (n L E E' : Int) (X Y Z : Nat → Int) (row : Nat → Nat → Int) (lo hi hd lo' hi' : Nat → Int) (eo : Nat → Nat → Int) : Prop :=
  (0 ≤ E ∧ E ≤ 45 ∧ E' = E) ∧
  (∀ e : Nat, (e : Int) < E → 0 ≤ lo e ∧ lo e < hi e ∧ hi e < n ∧ lo' e = lo e ∧ hi' e = hi e ∧ hd e = zz_td (X (hi e).toNat - X (lo e).toNat) (Y (hi e).toNat - Y (lo e).toNat) ∧ eo (lo e).toNat (hi e).toNat = e ∧ eo (hi e).toNat (lo e).toNat = e) ∧
  (∀ a b : Nat, a < 10 → b < 10 → eo a b = -1 ∨ (0 ≤ eo a b ∧ eo a b < E ∧ ((lo (eo a b).toNat = a ∧ hi (eo a b).toNat = b) ∨ (lo (eo a b).toNat = b ∧ hi (eo a b).toNat = a)))) ∧
  (∀ e f : Nat, e < f → (f : Int) < E → lo e < lo f ∨ (lo e = lo f ∧ hi e < hi f)) ∧
  (∀ a b : Nat, a < 10 → b < 10 → (¬ eo a b = -1 ↔ i_led L Z row a b))
def i_ring (n : Int) (X Y dg : Nat → Int) (ring eo : Nat → Nat → Int) : Prop :=
  ∀ s : Nat, s < 10 → (0 ≤ dg s ∧ dg s ≤ 9) ∧ (∀ i : Nat, (i : Int) < dg s → 0 ≤ ring s i ∧ ring s i < n ∧ ¬ ring s i = s ∧ ¬ eo s (ring s i).toNat = -1) ∧ (∀ t : Nat, t < 10 → ¬ eo s t = -1 → ∃ i : Nat, (i : Int) < dg s ∧ ring s i = t) ∧ (∀ i j : Nat, i < j → (j : Int) < dg s → zz_ahead X Y s (ring s i).toNat (ring s j).toNat)
/-- one station in a plan: away, or at a point of the grid -/
def i_at (w h x y : Int) : Prop := (x = -1 ∧ y = -1) ∨ (0 ≤ x ∧ x < w ∧ 0 ≤ y ∧ y < h)
def zz_pt (w x y : Int) : Int := if x = -1 then -1 else y * w + x
def i_plan (n w h : Int) (X Y H : Nat → Int) (w' h' : Int) (P' H' : Nat → Int) : Prop :=
  (2 ≤ w ∧ w ≤ 8 ∧ 2 ≤ h ∧ h ≤ 8 ∧ w' = w ∧ h' = h) ∧
  (∀ s : Nat, s < 10 → i_at w h (X s) (Y s) ∧ (H s = 0 ∨ H s = 1) ∧ (X s = -1 → H s = 0) ∧ (n ≤ s → X s = -1)) ∧
  (∀ s : Nat, (s : Int) < n → H' s = H s ∧ P' s = zz_pt w (X s) (Y s))
def i_terms (b w t sp b' w' t' sp' : Int) : Prop :=
  0 ≤ b ∧ b ≤ 100 ∧ 0 ≤ w ∧ w ≤ 100 ∧ 0 ≤ t ∧ t ≤ 100 ∧ 1 ≤ sp ∧ sp ≤ 4 ∧ b' = b ∧ w' = w ∧ t' = t ∧ sp' = sp
def i_names (n : Int) (N sd hn : Nat → Int) (put : Int) (N' hn' sd' : Nat → Int) : Prop :=
  (0 ≤ put ∧ put ≤ n) ∧
  (∀ s : Nat, s < 10 → 0 ≤ N s ∧ N s ≤ 12 ∧ ((s : Int) < n → N' s = N s) ∧ (n ≤ s → N s = 0) ∧ (-1 ≤ sd s ∧ sd s ≤ 7 ∧ -1 ≤ hn s ∧ hn s ≤ 300) ∧ ((s : Int) < put → sd' s = sd s ∧ hn' s = hn s) ∧ (put ≤ s → sd s = -1 ∧ hn s = -1))
def i_img (k : Nat) (n f f' w h : Int) (X Y H kp : Nat → Int) : Prop :=
  (f = 0 ∨ f = 1) ∧ f' = f ∧ (f = 1 → (2 ≤ w ∧ w ≤ 8 ∧ 2 ≤ h ∧ h ≤ 8 ∧ kp (23 * k + 20) = w ∧ kp (23 * k + 21) = h) ∧ ∀ s : Nat, s < 10 → i_at w h (X s) (Y s) ∧ (H s = 0 ∨ H s = 1) ∧ (X s = -1 → H s = 0) ∧ (n ≤ s → X s = -1) ∧ kp (23 * k + s) = zz_pt w (X s) (Y s) ∧ kp (23 * k + 10 + s) = H s)
def inv (S : qq_S) : Prop :=
  i_net (S 4 0) (S 115 1) (S 4 1) (S 115 2) (S 5) (S 6) (S 116) (S 117) ∧
  i_line (S 4 0) (S 4 1) (S 7) (S 118) (qq_R S 9 6) (qq_R S 16 6) (S 119) ∧
  i_edge (S 4 0) (S 4 1) (S 4 2) (S 115 3) (S 5) (S 6) (S 7) (qq_R S 9 6) (S 22) (S 23) (S 24) (S 120) (S 121) (qq_R S 38 10) ∧
  i_ring (S 4 0) (S 5) (S 6) (S 25) (qq_R S 27 10) (qq_R S 38 10) ∧
  i_plan (S 4 0) (S 48 0) (S 48 1) (S 49) (S 50) (S 51) (S 115 12) (S 115 13) (S 123) (S 124) ∧
  i_terms (S 52 0) (S 52 1) (S 52 2) (S 52 3) (S 115 15) (S 115 16) (S 115 17) (S 115 14) ∧
  i_names (S 4 0) (S 95) (S 96) (S 97) (S 115 26) (S 125) (S 130) (S 131) ∧
  i_img 0 (S 4 0) (S 114 0) (S 132 0) (S 102 0) (S 102 1) (S 103) (S 104) (S 105) (S 133) ∧
  i_img 1 (S 4 0) (S 114 1) (S 132 1) (S 106 0) (S 106 1) (S 107) (S 108) (S 109) (S 133) ∧
  i_img 2 (S 4 0) (S 114 2) (S 132 2) (S 110 0) (S 110 1) (S 111) (S 112) (S 113) (S 133) ∧
  (S 115 0 = S 3 9 ∧ qq_in (S 3 9))
/-- what is told of one call on both -/
def qq_op (xs : List Int32) (d y y' : Nat) (as : List qq_V) (S : qq_S) : Prop :=
  ∃ r S1 S2, qq_E xs d y (.inr (3, none) :: as) S (some r) S1 ∧ qq_E xs d y' (.inr (115, none) :: as) S1 (some r) S2 ∧ qq_in r ∧ inv S2
end
section
def sp_2 : qq_P := fun y as S => match y, as with
  | 110, [.inl a, .inl lo, .inl hi] => some (qq_in a ∧ qq_in lo ∧ qq_in hi, some (zz_b (lo ≤ a ∧ a ≤ hi)), S)
  | 114, [.inl a, .inl lo, .inl hi] => some (qq_in a ∧ qq_in lo ∧ qq_in hi, some (zz_b (lo ≤ a ∧ a ≤ hi)), S)
  | 108, [.inr (3, none), .inl a] => some (True, some (a), qq_u S 3 9 a)
  | 109, [.inr (3, none), .inl a] => some (True, some (a), qq_u S 3 9 0)
  | 115, [.inr (115, none), .inl a] => some (qq_in a, some (a), qq_u S 115 0 (if a < 0 then a else 0))
  | 31, [.inr (4, none), .inl a] => some (qq_in a ∧ qq_in (S 4 0), some (zz_b (0 ≤ a ∧ a < S 4 0)), S)
  | 32, [.inr (4, none), .inl a] => some (qq_in a ∧ qq_in (S 4 1), some (zz_b (0 ≤ a ∧ a < S 4 1)), S)
  | 107, [.inr (3, none)] => some (True, some (S 3 9), S)
  | 177, [.inr (115, none)] => some (True, some (S 115 0), S)
  | 45, [.inr (48, none)] => some (True, some (S 48 0 * S 48 1), S)
  | 46, [.inr (48, none), .inl a] => some (0 ≤ a ∧ a < 10 ∧ qq_in (S 49 a.toNat), some (zz_b (¬ S 49 a.toNat = -1)), S)
  | 52, [.inr (48, none), .inl a, .inl b] => some (0 ≤ a ∧ a < 10 ∧ 0 ≤ b ∧ b < 10 ∧ (-8 ≤ S 49 a.toNat ∧ S 49 a.toNat ≤ 8 ∧ -8 ≤ S 49 b.toNat ∧ S 49 b.toNat ≤ 8 ∧ -8 ≤ S 50 a.toNat ∧ S 50 a.toNat ≤ 8 ∧ -8 ≤ S 50 b.toNat ∧ S 50 b.toNat ≤ 8), some (zz_dir (S 49 b.toNat - S 49 a.toNat) (S 50 b.toNat - S 50 a.toNat)), S)
  | 45, [.inr (56, none)] => some (True, some (S 56 0 * S 56 1), S)
  | 46, [.inr (56, none), .inl a] => some (0 ≤ a ∧ a < 10 ∧ qq_in (S 57 a.toNat), some (zz_b (¬ S 57 a.toNat = -1)), S)
  | 52, [.inr (56, none), .inl a, .inl b] => some (0 ≤ a ∧ a < 10 ∧ 0 ≤ b ∧ b < 10 ∧ (-8 ≤ S 57 a.toNat ∧ S 57 a.toNat ≤ 8 ∧ -8 ≤ S 57 b.toNat ∧ S 57 b.toNat ≤ 8 ∧ -8 ≤ S 58 a.toNat ∧ S 58 a.toNat ≤ 8 ∧ -8 ≤ S 58 b.toNat ∧ S 58 b.toNat ≤ 8), some (zz_dir (S 57 b.toNat - S 57 a.toNat) (S 58 b.toNat - S 58 a.toNat)), S)
  | 64, [.inl a, .inl b] => some (-100 ≤ a ∧ a ≤ 100 ∧ -100 ≤ b ∧ b ≤ 100, some (if 4 < qq_and (a - b) 7 then 8 - qq_and (a - b) 7 else qq_and (a - b) 7), S)
  | 111, [.inl a] => some (qq_in a, some (zz_b (0 ≤ a ∧ a ≤ 100)), S)
  | 116, [.inr (115, none), .inl a] => some (qq_in a ∧ 0 ≤ S 115 1 ∧ S 115 1 ≤ 10, some (zz_b (0 ≤ a ∧ a < S 115 1)), S)
  | _, _ => none
theorem sp_2_ok {xs : List Int32} (hxs : xs.length ≤ 2048) (d : Nat) : qq_ok xs (d + 2) sp_2 := by
  intro y as S pre r S2 h hp
  unfold sp_2 at h
  split at h
  · cases h; exact f110 hxs (d + 1) S _ _ _ hp
  · cases h; exact f114 hxs (d + 1) S _ _ _ hp
  · cases h; exact f108 hxs (d + 1) S _ hp
  · cases h; exact f109 hxs (d + 1) S _ hp
  · cases h; exact f115 hxs (d + 1) S _ hp
  · cases h; exact f31 hxs (d + 1) S _ hp
  · cases h; exact f32 hxs (d + 1) S _ hp
  · cases h; exact f107 hxs (d + 1) S hp
  · cases h; exact f177 hxs (d + 1) S hp
  · cases h; exact f45_48 hxs (d + 1) S hp
  · cases h; exact f46_48 hxs (d + 1) S _ hp
  · cases h; exact f52_48 hxs (d + 1) S _ _ hp
  · cases h; exact f45_56 hxs (d + 1) S hp
  · cases h; exact f46_56 hxs (d + 1) S _ hp
  · cases h; exact f52_56 hxs (d + 1) S _ _ hp
  · cases h; exact f64 hxs (d + 1) S _ _ hp
  · cases h; exact f111 hxs (d + 0) S _ hp
  · cases h; exact f116 hxs (d + 0) S _ hp
  · cases h
theorem zz_mod {w x y : Int} (h : 0 ≤ x ∧ x < w) : (y * w + x) % w = x ∧ (y * w + x) / w = y := by
  constructor
  · rw [Int.add_comm, Int.add_mul_emod_self_right, Int.emod_eq_of_lt h.1 h.2]
  · rw [Int.add_comm, Int.add_mul_ediv_right _ _ (by omega), Int.ediv_eq_zero_of_lt h.1 h.2]
    omega
set_option maxRecDepth 20000 in
theorem f92 {xs : List Int32} (hxs : xs.length ≤ 2048) (d : Nat) (S : qq_S) (a : Int) (hp : qq_in a) : qq_E xs (d + 2) 92 [.inr (3, none), .inl a] S (some (if 1 ≤ a ∧ a ≤ 4 then S 52 3 else -1)) (if 1 ≤ a ∧ a ≤ 4 then qq_u (qq_u S 52 3 a) 3 9 0 else qq_u S 3 9 (-1)) := by
  have h : qq_p xs (d + 1) (mm_mr mm_m92) (mm_mk mm_m92) (fun r S' => r = some (if 1 ≤ a ∧ a ≤ 4 then S 52 3 else -1) ∧ S' = if 1 ≤ a ∧ a ≤ 4 then qq_u (qq_u S 52 3 a) 3 9 0 else qq_u S 3 9 (-1)) 0 (qq_ent mm_m92 [.inr (3, none), .inl a]) [] S := by
    refine qq_fsound hxs (sp_1_ok hxs (d + 0)) [] 200 ?_
    repeat' first | apply And.intro | intro _
    all_goals (first | rfl | omega | grind [qq_in, zz_b])
  obtain ⟨r, S', hE, e1, e2⟩ := qq_call_of (y := 92) rfl (Nat.le_of_ble_eq_true rfl) h
  rw [e1, e2] at hE
  exact hE
set_option maxRecDepth 20000 in
theorem f132 {xs : List Int32} (hxs : xs.length ≤ 2048) (d : Nat) (S : qq_S) (a : Int) (hp : qq_in a ∧ 0 ≤ S 115 14 ∧ S 115 14 ≤ 4) : qq_E xs (d + 2) 132 [.inr (115, none), .inl a] S (some (if 1 ≤ a ∧ a ≤ 4 then S 115 14 else -1)) (if 1 ≤ a ∧ a ≤ 4 then qq_u (qq_u S 115 14 a) 115 0 0 else qq_u S 115 0 (-1)) := by
  have h : qq_p xs (d + 1) (mm_mr mm_m132) (mm_mk mm_m132) (fun r S' => r = some (if 1 ≤ a ∧ a ≤ 4 then S 115 14 else -1) ∧ S' = if 1 ≤ a ∧ a ≤ 4 then qq_u (qq_u S 115 14 a) 115 0 0 else qq_u S 115 0 (-1)) 0 (qq_ent mm_m132 [.inr (115, none), .inl a]) [] S := by
    refine qq_fsound hxs (sp_1_ok hxs (d + 0)) [] 200 ?_
    repeat' first | apply And.intro | intro _
    all_goals (first | rfl | omega | grind [qq_in, zz_b])
  obtain ⟨r, S', hE, e1, e2⟩ := qq_call_of (y := 132) rfl (Nat.le_of_ble_eq_true rfl) h
  rw [e1, e2] at hE
  exact hE
set_option maxRecDepth 20000 in
theorem f93 {xs : List Int32} (hxs : xs.length ≤ 2048) (d : Nat) (S : qq_S) (a : Int) (b : Int) (c : Int) (hp : qq_in a ∧ qq_in b ∧ qq_in c) : qq_E xs (d + 3) 93 [.inr (3, none), .inl a, .inl b, .inl c] S (some (if 0 ≤ a ∧ a ≤ 100 ∧ 0 ≤ b ∧ b ≤ 100 ∧ 0 ≤ c ∧ c ≤ 100 then 0 else -1)) (if 0 ≤ a ∧ a ≤ 100 ∧ 0 ≤ b ∧ b ≤ 100 ∧ 0 ≤ c ∧ c ≤ 100 then qq_u (qq_u (qq_u (qq_u S 52 0 a) 52 1 b) 52 2 c) 3 9 0 else qq_u S 3 9 (-1)) := by
  have h : qq_p xs (d + 2) (mm_mr mm_m93) (mm_mk mm_m93) (fun r S' => r = some (if 0 ≤ a ∧ a ≤ 100 ∧ 0 ≤ b ∧ b ≤ 100 ∧ 0 ≤ c ∧ c ≤ 100 then 0 else -1) ∧ S' = if 0 ≤ a ∧ a ≤ 100 ∧ 0 ≤ b ∧ b ≤ 100 ∧ 0 ≤ c ∧ c ≤ 100 then qq_u (qq_u (qq_u (qq_u S 52 0 a) 52 1 b) 52 2 c) 3 9 0 else qq_u S 3 9 (-1)) 0 (qq_ent mm_m93 [.inr (3, none), .inl a, .inl b, .inl c]) [] S := by
    refine qq_fsound hxs (sp_2_ok hxs (d + 0)) [] 200 ?_
    repeat' first | apply And.intro | intro _
    all_goals (first | rfl | omega | grind [qq_in, zz_b])
  obtain ⟨r, S', hE, e1, e2⟩ := qq_call_of (y := 93) rfl (Nat.le_of_ble_eq_true rfl) h
  rw [e1, e2] at hE
  exact hE
set_option maxRecDepth 20000 in
theorem f133 {xs : List Int32} (hxs : xs.length ≤ 2048) (d : Nat) (S : qq_S) (a : Int) (b : Int) (c : Int) (hp : qq_in a ∧ qq_in b ∧ qq_in c) : qq_E xs (d + 2) 133 [.inr (115, none), .inl a, .inl b, .inl c] S (some (if 0 ≤ a ∧ a ≤ 100 ∧ 0 ≤ b ∧ b ≤ 100 ∧ 0 ≤ c ∧ c ≤ 100 then 0 else -1)) (if 0 ≤ a ∧ a ≤ 100 ∧ 0 ≤ b ∧ b ≤ 100 ∧ 0 ≤ c ∧ c ≤ 100 then qq_u (qq_u (qq_u (qq_u S 115 15 a) 115 16 b) 115 17 c) 115 0 0 else qq_u S 115 0 (-1)) := by
  have h : qq_p xs (d + 1) (mm_mr mm_m133) (mm_mk mm_m133) (fun r S' => r = some (if 0 ≤ a ∧ a ≤ 100 ∧ 0 ≤ b ∧ b ≤ 100 ∧ 0 ≤ c ∧ c ≤ 100 then 0 else -1) ∧ S' = if 0 ≤ a ∧ a ≤ 100 ∧ 0 ≤ b ∧ b ≤ 100 ∧ 0 ≤ c ∧ c ≤ 100 then qq_u (qq_u (qq_u (qq_u S 115 15 a) 115 16 b) 115 17 c) 115 0 0 else qq_u S 115 0 (-1)) 0 (qq_ent mm_m133 [.inr (115, none), .inl a, .inl b, .inl c]) [] S := by
    refine qq_fsound hxs (sp_1_ok hxs (d + 0)) [] 200 ?_
    repeat' first | apply And.intro | intro _
    all_goals (first | rfl | omega | grind [qq_in, zz_b])
  obtain ⟨r, S', hE, e1, e2⟩ := qq_call_of (y := 133) rfl (Nat.le_of_ble_eq_true rfl) h
  rw [e1, e2] at hE
  exact hE
set_option maxRecDepth 20000 in
theorem f47_48 {xs : List Int32} (hxs : xs.length ≤ 2048) (d : Nat) (S : qq_S) (a : Int) (hp : 0 ≤ a ∧ a < 10 ∧ qq_in (S 49 a.toNat)) : qq_E xs (d + 2) 47 [.inr (48, none), .inl a] S (some (if S 49 a.toNat = -1 then -1 else S 50 a.toNat * S 48 0 + S 49 a.toNat)) (S) := by
  have h : qq_p xs (d + 1) (mm_mr mm_m47) (mm_mk mm_m47) (fun r S' => r = some (if S 49 a.toNat = -1 then -1 else S 50 a.toNat * S 48 0 + S 49 a.toNat) ∧ S' = S) 0 (qq_ent mm_m47 [.inr (48, none), .inl a]) [] S := by
    refine qq_fsound hxs (sp_1_ok hxs (d + 0)) [] 200 ?_
    repeat' first | apply And.intro | intro _
    all_goals (first | rfl | omega | grind [qq_in, zz_b])
  obtain ⟨r, S', hE, e1, e2⟩ := qq_call_of (y := 47) rfl (Nat.le_of_ble_eq_true rfl) h
  rw [e1, e2] at hE
  exact hE
set_option maxRecDepth 20000 in
theorem f48_48 {xs : List Int32} (hxs : xs.length ≤ 2048) (d : Nat) (S : qq_S) (a : Int) (p : Int) (hp : 0 ≤ a ∧ a < 10 ∧ qq_in p ∧ 0 ≤ S 48 0 ∧ S 48 0 ≤ 8) : qq_E xs (d + 1) 48 [.inr (48, none), .inl a, .inl p] S (none) (if p < 0 ∨ S 48 0 < 1 then qq_u (qq_u S 49 a.toNat (-1)) 50 a.toNat (-1) else qq_u (qq_u S 49 a.toNat (p % S 48 0)) 50 a.toNat (p / S 48 0)) := by
  have h : qq_p xs (d + 0) (mm_mr mm_m48) (mm_mk mm_m48) (fun r S' => r = none ∧ S' = if p < 0 ∨ S 48 0 < 1 then qq_u (qq_u S 49 a.toNat (-1)) 50 a.toNat (-1) else qq_u (qq_u S 49 a.toNat (p % S 48 0)) 50 a.toNat (p / S 48 0)) 0 (qq_ent mm_m48 [.inr (48, none), .inl a, .inl p]) [] S := by
    refine qq_fsound hxs (sp_0_ok hxs (d + 0)) [] 200 ?_
    repeat' first | apply And.intro | intro _
    all_goals (first | rfl | omega | grind [qq_in, qq_u])
  obtain ⟨r, S', hE, e1, e2⟩ := qq_call_of (y := 48) rfl (Nat.le_of_ble_eq_true rfl) h
  rw [e1, e2] at hE
  exact hE
set_option maxRecDepth 20000 in
theorem f47_56 {xs : List Int32} (hxs : xs.length ≤ 2048) (d : Nat) (S : qq_S) (a : Int) (hp : 0 ≤ a ∧ a < 10 ∧ qq_in (S 57 a.toNat)) : qq_E xs (d + 2) 47 [.inr (56, none), .inl a] S (some (if S 57 a.toNat = -1 then -1 else S 58 a.toNat * S 56 0 + S 57 a.toNat)) (S) := by
  have h : qq_p xs (d + 1) (mm_mr mm_m47) (mm_mk mm_m47) (fun r S' => r = some (if S 57 a.toNat = -1 then -1 else S 58 a.toNat * S 56 0 + S 57 a.toNat) ∧ S' = S) 0 (qq_ent mm_m47 [.inr (56, none), .inl a]) [] S := by
    refine qq_fsound hxs (sp_1_ok hxs (d + 0)) [] 200 ?_
    repeat' first | apply And.intro | intro _
    all_goals (first | rfl | omega | grind [qq_in, zz_b])
  obtain ⟨r, S', hE, e1, e2⟩ := qq_call_of (y := 47) rfl (Nat.le_of_ble_eq_true rfl) h
  rw [e1, e2] at hE
  exact hE
set_option maxRecDepth 20000 in
theorem f48_56 {xs : List Int32} (hxs : xs.length ≤ 2048) (d : Nat) (S : qq_S) (a : Int) (p : Int) (hp : 0 ≤ a ∧ a < 10 ∧ qq_in p ∧ 0 ≤ S 56 0 ∧ S 56 0 ≤ 8) : qq_E xs (d + 1) 48 [.inr (56, none), .inl a, .inl p] S (none) (if p < 0 ∨ S 56 0 < 1 then qq_u (qq_u S 57 a.toNat (-1)) 58 a.toNat (-1) else qq_u (qq_u S 57 a.toNat (p % S 56 0)) 58 a.toNat (p / S 56 0)) := by
  have h : qq_p xs (d + 0) (mm_mr mm_m48) (mm_mk mm_m48) (fun r S' => r = none ∧ S' = if p < 0 ∨ S 56 0 < 1 then qq_u (qq_u S 57 a.toNat (-1)) 58 a.toNat (-1) else qq_u (qq_u S 57 a.toNat (p % S 56 0)) 58 a.toNat (p / S 56 0)) 0 (qq_ent mm_m48 [.inr (56, none), .inl a, .inl p]) [] S := by
    refine qq_fsound hxs (sp_0_ok hxs (d + 0)) [] 200 ?_
    repeat' first | apply And.intro | intro _
    all_goals (first | rfl | omega | grind [qq_in, qq_u])
  obtain ⟨r, S', hE, e1, e2⟩ := qq_call_of (y := 48) rfl (Nat.le_of_ble_eq_true rfl) h
  rw [e1, e2] at hE
  exact hE
def sp_3 : qq_P := fun y as S => match y, as with
  | 110, [.inl a, .inl lo, .inl hi] => some (qq_in a ∧ qq_in lo ∧ qq_in hi, some (zz_b (lo ≤ a ∧ a ≤ hi)), S)
  | 114, [.inl a, .inl lo, .inl hi] => some (qq_in a ∧ qq_in lo ∧ qq_in hi, some (zz_b (lo ≤ a ∧ a ≤ hi)), S)
  | 108, [.inr (3, none), .inl a] => some (True, some (a), qq_u S 3 9 a)
  | 109, [.inr (3, none), .inl a] => some (True, some (a), qq_u S 3 9 0)
  | 115, [.inr (115, none), .inl a] => some (qq_in a, some (a), qq_u S 115 0 (if a < 0 then a else 0))
  | 31, [.inr (4, none), .inl a] => some (qq_in a ∧ qq_in (S 4 0), some (zz_b (0 ≤ a ∧ a < S 4 0)), S)
  | 32, [.inr (4, none), .inl a] => some (qq_in a ∧ qq_in (S 4 1), some (zz_b (0 ≤ a ∧ a < S 4 1)), S)
  | 107, [.inr (3, none)] => some (True, some (S 3 9), S)
  | 177, [.inr (115, none)] => some (True, some (S 115 0), S)
  | 45, [.inr (48, none)] => some (True, some (S 48 0 * S 48 1), S)
  | 46, [.inr (48, none), .inl a] => some (0 ≤ a ∧ a < 10 ∧ qq_in (S 49 a.toNat), some (zz_b (¬ S 49 a.toNat = -1)), S)
  | 52, [.inr (48, none), .inl a, .inl b] => some (0 ≤ a ∧ a < 10 ∧ 0 ≤ b ∧ b < 10 ∧ (-8 ≤ S 49 a.toNat ∧ S 49 a.toNat ≤ 8 ∧ -8 ≤ S 49 b.toNat ∧ S 49 b.toNat ≤ 8 ∧ -8 ≤ S 50 a.toNat ∧ S 50 a.toNat ≤ 8 ∧ -8 ≤ S 50 b.toNat ∧ S 50 b.toNat ≤ 8), some (zz_dir (S 49 b.toNat - S 49 a.toNat) (S 50 b.toNat - S 50 a.toNat)), S)
  | 45, [.inr (56, none)] => some (True, some (S 56 0 * S 56 1), S)
  | 46, [.inr (56, none), .inl a] => some (0 ≤ a ∧ a < 10 ∧ qq_in (S 57 a.toNat), some (zz_b (¬ S 57 a.toNat = -1)), S)
  | 52, [.inr (56, none), .inl a, .inl b] => some (0 ≤ a ∧ a < 10 ∧ 0 ≤ b ∧ b < 10 ∧ (-8 ≤ S 57 a.toNat ∧ S 57 a.toNat ≤ 8 ∧ -8 ≤ S 57 b.toNat ∧ S 57 b.toNat ≤ 8 ∧ -8 ≤ S 58 a.toNat ∧ S 58 a.toNat ≤ 8 ∧ -8 ≤ S 58 b.toNat ∧ S 58 b.toNat ≤ 8), some (zz_dir (S 57 b.toNat - S 57 a.toNat) (S 58 b.toNat - S 58 a.toNat)), S)
  | 64, [.inl a, .inl b] => some (-100 ≤ a ∧ a ≤ 100 ∧ -100 ≤ b ∧ b ≤ 100, some (if 4 < qq_and (a - b) 7 then 8 - qq_and (a - b) 7 else qq_and (a - b) 7), S)
  | 111, [.inl a] => some (qq_in a, some (zz_b (0 ≤ a ∧ a ≤ 100)), S)
  | 116, [.inr (115, none), .inl a] => some (qq_in a ∧ 0 ≤ S 115 1 ∧ S 115 1 ≤ 10, some (zz_b (0 ≤ a ∧ a < S 115 1)), S)
  | 92, [.inr (3, none), .inl a] => some (qq_in a, some (if 1 ≤ a ∧ a ≤ 4 then S 52 3 else -1), if 1 ≤ a ∧ a ≤ 4 then qq_u (qq_u S 52 3 a) 3 9 0 else qq_u S 3 9 (-1))
  | 132, [.inr (115, none), .inl a] => some (qq_in a ∧ 0 ≤ S 115 14 ∧ S 115 14 ≤ 4, some (if 1 ≤ a ∧ a ≤ 4 then S 115 14 else -1), if 1 ≤ a ∧ a ≤ 4 then qq_u (qq_u S 115 14 a) 115 0 0 else qq_u S 115 0 (-1))
  | 93, [.inr (3, none), .inl a, .inl b, .inl c] => some (qq_in a ∧ qq_in b ∧ qq_in c, some (if 0 ≤ a ∧ a ≤ 100 ∧ 0 ≤ b ∧ b ≤ 100 ∧ 0 ≤ c ∧ c ≤ 100 then 0 else -1), if 0 ≤ a ∧ a ≤ 100 ∧ 0 ≤ b ∧ b ≤ 100 ∧ 0 ≤ c ∧ c ≤ 100 then qq_u (qq_u (qq_u (qq_u S 52 0 a) 52 1 b) 52 2 c) 3 9 0 else qq_u S 3 9 (-1))
  | 133, [.inr (115, none), .inl a, .inl b, .inl c] => some (qq_in a ∧ qq_in b ∧ qq_in c, some (if 0 ≤ a ∧ a ≤ 100 ∧ 0 ≤ b ∧ b ≤ 100 ∧ 0 ≤ c ∧ c ≤ 100 then 0 else -1), if 0 ≤ a ∧ a ≤ 100 ∧ 0 ≤ b ∧ b ≤ 100 ∧ 0 ≤ c ∧ c ≤ 100 then qq_u (qq_u (qq_u (qq_u S 115 15 a) 115 16 b) 115 17 c) 115 0 0 else qq_u S 115 0 (-1))
  | 47, [.inr (48, none), .inl a] => some (0 ≤ a ∧ a < 10 ∧ qq_in (S 49 a.toNat), some (if S 49 a.toNat = -1 then -1 else S 50 a.toNat * S 48 0 + S 49 a.toNat), S)
  | 48, [.inr (48, none), .inl a, .inl p] => some (0 ≤ a ∧ a < 10 ∧ qq_in p ∧ 0 ≤ S 48 0 ∧ S 48 0 ≤ 8, none, if p < 0 ∨ S 48 0 < 1 then qq_u (qq_u S 49 a.toNat (-1)) 50 a.toNat (-1) else qq_u (qq_u S 49 a.toNat (p % S 48 0)) 50 a.toNat (p / S 48 0))
  | 47, [.inr (56, none), .inl a] => some (0 ≤ a ∧ a < 10 ∧ qq_in (S 57 a.toNat), some (if S 57 a.toNat = -1 then -1 else S 58 a.toNat * S 56 0 + S 57 a.toNat), S)
  | 48, [.inr (56, none), .inl a, .inl p] => some (0 ≤ a ∧ a < 10 ∧ qq_in p ∧ 0 ≤ S 56 0 ∧ S 56 0 ≤ 8, none, if p < 0 ∨ S 56 0 < 1 then qq_u (qq_u S 57 a.toNat (-1)) 58 a.toNat (-1) else qq_u (qq_u S 57 a.toNat (p % S 56 0)) 58 a.toNat (p / S 56 0))
  | _, _ => none
theorem sp_3_ok {xs : List Int32} (hxs : xs.length ≤ 2048) (d : Nat) : qq_ok xs (d + 3) sp_3 := by
  intro y as S pre r S2 h hp
  unfold sp_3 at h
  split at h
  · cases h; exact f110 hxs (d + 2) S _ _ _ hp
  · cases h; exact f114 hxs (d + 2) S _ _ _ hp
  · cases h; exact f108 hxs (d + 2) S _ hp
  · cases h; exact f109 hxs (d + 2) S _ hp
  · cases h; exact f115 hxs (d + 2) S _ hp
  · cases h; exact f31 hxs (d + 2) S _ hp
  · cases h; exact f32 hxs (d + 2) S _ hp
  · cases h; exact f107 hxs (d + 2) S hp
  · cases h; exact f177 hxs (d + 2) S hp
  · cases h; exact f45_48 hxs (d + 2) S hp
  · cases h; exact f46_48 hxs (d + 2) S _ hp
  · cases h; exact f52_48 hxs (d + 2) S _ _ hp
  · cases h; exact f45_56 hxs (d + 2) S hp
  · cases h; exact f46_56 hxs (d + 2) S _ hp
  · cases h; exact f52_56 hxs (d + 2) S _ _ hp
  · cases h; exact f64 hxs (d + 2) S _ _ hp
  · cases h; exact f111 hxs (d + 1) S _ hp
  · cases h; exact f116 hxs (d + 1) S _ hp
  · cases h; exact f92 hxs (d + 1) S _ hp
  · cases h; exact f132 hxs (d + 1) S _ hp
  · cases h; exact f93 hxs (d + 0) S _ _ _ hp
  · cases h; exact f133 hxs (d + 1) S _ _ _ hp
  · cases h; exact f47_48 hxs (d + 1) S _ hp
  · cases h; exact f48_48 hxs (d + 2) S _ _ hp
  · cases h; exact f47_56 hxs (d + 1) S _ hp
  · cases h; exact f48_56 hxs (d + 2) S _ _ hp
  · cases h
set_option maxRecDepth 20000 in
theorem f95 {xs : List Int32} (hxs : xs.length ≤ 2048) (d : Nat) (S : qq_S) (a : Int) (hp : qq_in a ∧ (0 ≤ S 4 0 ∧ S 4 0 ≤ 10) ∧ (0 ≤ a ∧ a < S 4 0 → qq_in (S 49 a.toNat))) : qq_E xs (d + 4) 95 [.inr (3, none), .inl a] S (some (if 0 ≤ a ∧ a < S 4 0 then zz_pt (S 48 0) (S 49 a.toNat) (S 50 a.toNat) else -1)) (S) := by
  have h : qq_p xs (d + 3) (mm_mr mm_m95) (mm_mk mm_m95) (fun r S' => r = some (if 0 ≤ a ∧ a < S 4 0 then zz_pt (S 48 0) (S 49 a.toNat) (S 50 a.toNat) else -1) ∧ S' = S) 0 (qq_ent mm_m95 [.inr (3, none), .inl a]) [] S := by
    refine qq_fsound hxs (sp_3_ok hxs (d + 0)) [] 200 ?_
    repeat' first | apply And.intro | intro _
    all_goals (first | rfl | omega | grind [qq_in, zz_b, zz_pt])
  obtain ⟨r, S', hE, e1, e2⟩ := qq_call_of (y := 95) rfl (Nat.le_of_ble_eq_true rfl) h
  rw [e1, e2] at hE
  exact hE
set_option maxRecDepth 20000 in
theorem f135 {xs : List Int32} (hxs : xs.length ≤ 2048) (d : Nat) (S : qq_S) (a : Int) (hp : qq_in a ∧ (0 ≤ S 115 1 ∧ S 115 1 ≤ 10)) : qq_E xs (d + 4) 135 [.inr (115, none), .inl a] S (some (if 0 ≤ a ∧ a < S 115 1 then S 123 a.toNat else -1)) (S) := by
  have h : qq_p xs (d + 3) (mm_mr mm_m135) (mm_mk mm_m135) (fun r S' => r = some (if 0 ≤ a ∧ a < S 115 1 then S 123 a.toNat else -1) ∧ S' = S) 0 (qq_ent mm_m135 [.inr (115, none), .inl a]) [] S := by
    refine qq_fsound hxs (sp_3_ok hxs (d + 0)) [] 200 ?_
    repeat' first | apply And.intro | intro _
    all_goals (first | rfl | omega | grind [qq_in, zz_b, zz_pt])
  obtain ⟨r, S', hE, e1, e2⟩ := qq_call_of (y := 135) rfl (Nat.le_of_ble_eq_true rfl) h
  rw [e1, e2] at hE
  exact hE
set_option maxRecDepth 20000 in
theorem f94 {xs : List Int32} (hxs : xs.length ≤ 2048) (d : Nat) (S : qq_S) (a : Int) (x : Int) (y : Int) (hp : qq_in a ∧ qq_in x ∧ qq_in y ∧ (0 ≤ S 4 0 ∧ S 4 0 ≤ 10) ∧ (2 ≤ S 48 0 ∧ S 48 0 ≤ 8 ∧ 2 ≤ S 48 1 ∧ S 48 1 ≤ 8) ∧ (0 ≤ a ∧ a < S 4 0 → qq_in (S 51 a.toNat))) : qq_E xs (d + 4) 94 [.inr (3, none), .inl a, .inl x, .inl y] S (some (if ¬ (0 ≤ x ∧ x < S 48 0 ∧ 0 ≤ y ∧ y < S 48 1) then -1 else if ¬ (0 ≤ a ∧ a < S 4 0) then -2 else if ¬ S 51 a.toNat = 0 then -6 else 0)) (if ¬ (0 ≤ x ∧ x < S 48 0 ∧ 0 ≤ y ∧ y < S 48 1) then qq_u S 3 9 (-1) else if ¬ (0 ≤ a ∧ a < S 4 0) then qq_u S 3 9 (-2) else if ¬ S 51 a.toNat = 0 then qq_u S 3 9 (-6) else qq_u (qq_u (qq_u S 49 a.toNat x) 50 a.toNat y) 3 9 0) := by
  have h : qq_p xs (d + 3) (mm_mr mm_m94) (mm_mk mm_m94) (fun r S' => r = some (if ¬ (0 ≤ x ∧ x < S 48 0 ∧ 0 ≤ y ∧ y < S 48 1) then -1 else if ¬ (0 ≤ a ∧ a < S 4 0) then -2 else if ¬ S 51 a.toNat = 0 then -6 else 0) ∧ S' = if ¬ (0 ≤ x ∧ x < S 48 0 ∧ 0 ≤ y ∧ y < S 48 1) then qq_u S 3 9 (-1) else if ¬ (0 ≤ a ∧ a < S 4 0) then qq_u S 3 9 (-2) else if ¬ S 51 a.toNat = 0 then qq_u S 3 9 (-6) else qq_u (qq_u (qq_u S 49 a.toNat x) 50 a.toNat y) 3 9 0) 0 (qq_ent mm_m94 [.inr (3, none), .inl a, .inl x, .inl y]) [] S := by
    refine qq_fsound hxs (sp_3_ok hxs (d + 0)) [] 200 ?_
    repeat' first | apply And.intro | intro _
    all_goals (first | rfl | omega | grind [qq_in, zz_b] | (have hy1 : 0 ≤ y ∧ y ≤ 7 := (by grind [zz_b]); have hx1 : 0 ≤ x ∧ x < S 48 0 := (by grind [zz_b]); have hw1 : 0 ≤ S 48 0 ∧ S 48 0 ≤ 8 := (by grind); have hb1 := Int.mul_nonneg hy1.1 hw1.1; have hb2 := Int.mul_le_mul hy1.2 hw1.2 hw1.1 (by decide); have hm := zz_mod (y := y) hx1; grind [qq_in, zz_b]))
  obtain ⟨r, S', hE, e1, e2⟩ := qq_call_of (y := 94) rfl (Nat.le_of_ble_eq_true rfl) h
  rw [e1, e2] at hE
  exact hE
set_option maxRecDepth 20000 in
theorem f134 {xs : List Int32} (hxs : xs.length ≤ 2048) (d : Nat) (S : qq_S) (a : Int) (x : Int) (y : Int) (hp : qq_in a ∧ qq_in x ∧ qq_in y ∧ (0 ≤ S 115 1 ∧ S 115 1 ≤ 10) ∧ (2 ≤ S 115 12 ∧ S 115 12 ≤ 8 ∧ 2 ≤ S 115 13 ∧ S 115 13 ≤ 8) ∧ (0 ≤ a ∧ a < S 115 1 → qq_in (S 124 a.toNat))) : qq_E xs (d + 4) 134 [.inr (115, none), .inl a, .inl x, .inl y] S (some (if ¬ (0 ≤ x ∧ x < S 115 12 ∧ 0 ≤ y ∧ y < S 115 13) then -1 else if ¬ (0 ≤ a ∧ a < S 115 1) then -2 else if ¬ S 124 a.toNat = 0 then -6 else 0)) (if ¬ (0 ≤ x ∧ x < S 115 12 ∧ 0 ≤ y ∧ y < S 115 13) then qq_u S 115 0 (-1) else if ¬ (0 ≤ a ∧ a < S 115 1) then qq_u S 115 0 (-2) else if ¬ S 124 a.toNat = 0 then qq_u S 115 0 (-6) else qq_u (qq_u S 123 a.toNat (y * S 115 12 + x)) 115 0 0) := by
  have h : qq_p xs (d + 3) (mm_mr mm_m134) (mm_mk mm_m134) (fun r S' => r = some (if ¬ (0 ≤ x ∧ x < S 115 12 ∧ 0 ≤ y ∧ y < S 115 13) then -1 else if ¬ (0 ≤ a ∧ a < S 115 1) then -2 else if ¬ S 124 a.toNat = 0 then -6 else 0) ∧ S' = if ¬ (0 ≤ x ∧ x < S 115 12 ∧ 0 ≤ y ∧ y < S 115 13) then qq_u S 115 0 (-1) else if ¬ (0 ≤ a ∧ a < S 115 1) then qq_u S 115 0 (-2) else if ¬ S 124 a.toNat = 0 then qq_u S 115 0 (-6) else qq_u (qq_u S 123 a.toNat (y * S 115 12 + x)) 115 0 0) 0 (qq_ent mm_m134 [.inr (115, none), .inl a, .inl x, .inl y]) [] S := by
    refine qq_fsound hxs (sp_3_ok hxs (d + 0)) [] 200 ?_
    repeat' first | apply And.intro | intro _
    all_goals (first | rfl | omega | grind [qq_in, zz_b, zz_pt])
  obtain ⟨r, S', hE, e1, e2⟩ := qq_call_of (y := 134) rfl (Nat.le_of_ble_eq_true rfl) h
  rw [e1, e2] at hE
  exact hE
set_option maxRecDepth 20000 in
theorem f96 {xs : List Int32} (hxs : xs.length ≤ 2048) (d : Nat) (S : qq_S) (a : Int) (b : Int) (hp : qq_in a ∧ (b = 0 ∨ b = 1) ∧ (0 ≤ S 4 0 ∧ S 4 0 ≤ 10) ∧ (0 ≤ a ∧ a < S 4 0 → qq_in (S 49 a.toNat))) : qq_E xs (d + 4) 96 [.inr (3, none), .inl a, .inl b] S (some (if ¬ (0 ≤ a ∧ a < S 4 0) then -2 else if S 49 a.toNat = -1 then -2 else 0)) (if ¬ (0 ≤ a ∧ a < S 4 0) then qq_u S 3 9 (-2) else if S 49 a.toNat = -1 then qq_u S 3 9 (-2) else qq_u (qq_u S 51 a.toNat b) 3 9 0) := by
  have h : qq_p xs (d + 3) (mm_mr mm_m96) (mm_mk mm_m96) (fun r S' => r = some (if ¬ (0 ≤ a ∧ a < S 4 0) then -2 else if S 49 a.toNat = -1 then -2 else 0) ∧ S' = if ¬ (0 ≤ a ∧ a < S 4 0) then qq_u S 3 9 (-2) else if S 49 a.toNat = -1 then qq_u S 3 9 (-2) else qq_u (qq_u S 51 a.toNat b) 3 9 0) 0 (qq_ent mm_m96 [.inr (3, none), .inl a, .inl b]) [] S := by
    refine qq_fsound hxs (sp_3_ok hxs (d + 0)) [] 200 ?_
    repeat' first | apply And.intro | intro _
    all_goals (first | rfl | omega | grind [qq_in, zz_b, zz_pt])
  obtain ⟨r, S', hE, e1, e2⟩ := qq_call_of (y := 96) rfl (Nat.le_of_ble_eq_true rfl) h
  rw [e1, e2] at hE
  exact hE
set_option maxRecDepth 20000 in
theorem f136 {xs : List Int32} (hxs : xs.length ≤ 2048) (d : Nat) (S : qq_S) (a : Int) (b : Int) (hp : qq_in a ∧ (b = 0 ∨ b = 1) ∧ (0 ≤ S 115 1 ∧ S 115 1 ≤ 10) ∧ (0 ≤ a ∧ a < S 115 1 → qq_in (S 123 a.toNat))) : qq_E xs (d + 4) 136 [.inr (115, none), .inl a, .inl b] S (some (if ¬ (0 ≤ a ∧ a < S 115 1) then -2 else if S 123 a.toNat = -1 then -2 else 0)) (if ¬ (0 ≤ a ∧ a < S 115 1) then qq_u S 115 0 (-2) else if S 123 a.toNat = -1 then qq_u S 115 0 (-2) else qq_u (qq_u S 124 a.toNat b) 115 0 0) := by
  have h : qq_p xs (d + 3) (mm_mr mm_m136) (mm_mk mm_m136) (fun r S' => r = some (if ¬ (0 ≤ a ∧ a < S 115 1) then -2 else if S 123 a.toNat = -1 then -2 else 0) ∧ S' = if ¬ (0 ≤ a ∧ a < S 115 1) then qq_u S 115 0 (-2) else if S 123 a.toNat = -1 then qq_u S 115 0 (-2) else qq_u (qq_u S 124 a.toNat b) 115 0 0) 0 (qq_ent mm_m136 [.inr (115, none), .inl a, .inl b]) [] S := by
    refine qq_fsound hxs (sp_3_ok hxs (d + 0)) [] 200 ?_
    repeat' first | apply And.intro | intro _
    all_goals (first | rfl | omega | grind [qq_in, zz_b, zz_pt])
  obtain ⟨r, S', hE, e1, e2⟩ := qq_call_of (y := 136) rfl (Nat.le_of_ble_eq_true rfl) h
  rw [e1, e2] at hE
  exact hE
set_option maxRecDepth 20000 in
theorem f101 {xs : List Int32} (hxs : xs.length ≤ 2048) (d : Nat) (S : qq_S) (a : Int) (b : Int) (hp : qq_in a ∧ qq_in b ∧ (0 ≤ S 4 0 ∧ S 4 0 ≤ 10)) : qq_E xs (d + 4) 101 [.inr (3, none), .inl a, .inl b] S (some (if ¬ (0 ≤ b ∧ b ≤ 12) then -1 else if ¬ (0 ≤ a ∧ a < S 4 0) then -2 else S 95 a.toNat)) (if ¬ (0 ≤ b ∧ b ≤ 12) then qq_u S 3 9 (-1) else if ¬ (0 ≤ a ∧ a < S 4 0) then qq_u S 3 9 (-2) else qq_u (qq_u S 95 a.toNat b) 3 9 0) := by
  have h : qq_p xs (d + 3) (mm_mr mm_m101) (mm_mk mm_m101) (fun r S' => r = some (if ¬ (0 ≤ b ∧ b ≤ 12) then -1 else if ¬ (0 ≤ a ∧ a < S 4 0) then -2 else S 95 a.toNat) ∧ S' = if ¬ (0 ≤ b ∧ b ≤ 12) then qq_u S 3 9 (-1) else if ¬ (0 ≤ a ∧ a < S 4 0) then qq_u S 3 9 (-2) else qq_u (qq_u S 95 a.toNat b) 3 9 0) 0 (qq_ent mm_m101 [.inr (3, none), .inl a, .inl b]) [] S := by
    refine qq_fsound hxs (sp_3_ok hxs (d + 0)) [] 200 ?_
    repeat' first | apply And.intro | intro _
    all_goals (first | rfl | omega | grind [qq_in, zz_b, zz_pt])
  obtain ⟨r, S', hE, e1, e2⟩ := qq_call_of (y := 101) rfl (Nat.le_of_ble_eq_true rfl) h
  rw [e1, e2] at hE
  exact hE
set_option maxRecDepth 20000 in
theorem f164 {xs : List Int32} (hxs : xs.length ≤ 2048) (d : Nat) (S : qq_S) (a : Int) (b : Int) (hp : qq_in a ∧ qq_in b ∧ (0 ≤ S 115 1 ∧ S 115 1 ≤ 10) ∧ (0 ≤ a ∧ a < S 115 1 → 0 ≤ S 125 a.toNat ∧ S 125 a.toNat ≤ 12)) : qq_E xs (d + 4) 164 [.inr (115, none), .inl a, .inl b] S (some (if ¬ (0 ≤ b ∧ b ≤ 12) then -1 else if ¬ (0 ≤ a ∧ a < S 115 1) then -2 else S 125 a.toNat)) (if ¬ (0 ≤ b ∧ b ≤ 12) then qq_u S 115 0 (-1) else if ¬ (0 ≤ a ∧ a < S 115 1) then qq_u S 115 0 (-2) else qq_u (qq_u S 125 a.toNat b) 115 0 0) := by
  have h : qq_p xs (d + 3) (mm_mr mm_m164) (mm_mk mm_m164) (fun r S' => r = some (if ¬ (0 ≤ b ∧ b ≤ 12) then -1 else if ¬ (0 ≤ a ∧ a < S 115 1) then -2 else S 125 a.toNat) ∧ S' = if ¬ (0 ≤ b ∧ b ≤ 12) then qq_u S 115 0 (-1) else if ¬ (0 ≤ a ∧ a < S 115 1) then qq_u S 115 0 (-2) else qq_u (qq_u S 125 a.toNat b) 115 0 0) 0 (qq_ent mm_m164 [.inr (115, none), .inl a, .inl b]) [] S := by
    refine qq_fsound hxs (sp_3_ok hxs (d + 0)) [] 200 ?_
    repeat' first | apply And.intro | intro _
    all_goals (first | rfl | omega | grind [qq_in, zz_b, zz_pt])
  obtain ⟨r, S', hE, e1, e2⟩ := qq_call_of (y := 164) rfl (Nat.le_of_ble_eq_true rfl) h
  rw [e1, e2] at hE
  exact hE
set_option maxRecDepth 20000 in
theorem f103 {xs : List Int32} (hxs : xs.length ≤ 2048) (d : Nat) (S : qq_S) (a : Int) (b : Int) (hp : qq_in a ∧ qq_in b ∧ (0 ≤ S 4 0 ∧ S 4 0 ≤ 10)) : qq_E xs (d + 4) 103 [.inr (3, none), .inl a, .inl b] S (some (if ¬ (0 ≤ a ∧ a < S 4 0) then -1 else if b = 0 then S 96 a.toNat else if b = 1 then S 97 a.toNat else -1)) (S) := by
  have h : qq_p xs (d + 3) (mm_mr mm_m103) (mm_mk mm_m103) (fun r S' => r = some (if ¬ (0 ≤ a ∧ a < S 4 0) then -1 else if b = 0 then S 96 a.toNat else if b = 1 then S 97 a.toNat else -1) ∧ S' = S) 0 (qq_ent mm_m103 [.inr (3, none), .inl a, .inl b]) [] S := by
    refine qq_fsound hxs (sp_3_ok hxs (d + 0)) [] 200 ?_
    repeat' first | apply And.intro | intro _
    all_goals (first | rfl | omega | grind [qq_in, zz_b, zz_pt])
  obtain ⟨r, S', hE, e1, e2⟩ := qq_call_of (y := 103) rfl (Nat.le_of_ble_eq_true rfl) h
  rw [e1, e2] at hE
  exact hE
set_option maxRecDepth 20000 in
theorem f173 {xs : List Int32} (hxs : xs.length ≤ 2048) (d : Nat) (S : qq_S) (a : Int) (b : Int) (hp : qq_in a ∧ qq_in b ∧ (0 ≤ S 115 26 ∧ S 115 26 ≤ 10)) : qq_E xs (d + 4) 173 [.inr (115, none), .inl a, .inl b] S (some (if ¬ (0 ≤ a ∧ a < S 115 26) then -1 else if b = 0 then S 131 a.toNat else if b = 1 then S 130 a.toNat else -1)) (S) := by
  have h : qq_p xs (d + 3) (mm_mr mm_m173) (mm_mk mm_m173) (fun r S' => r = some (if ¬ (0 ≤ a ∧ a < S 115 26) then -1 else if b = 0 then S 131 a.toNat else if b = 1 then S 130 a.toNat else -1) ∧ S' = S) 0 (qq_ent mm_m173 [.inr (115, none), .inl a, .inl b]) [] S := by
    refine qq_fsound hxs (sp_3_ok hxs (d + 0)) [] 200 ?_
    repeat' first | apply And.intro | intro _
    all_goals (first | rfl | omega | grind [qq_in, zz_b, zz_pt])
  obtain ⟨r, S', hE, e1, e2⟩ := qq_call_of (y := 173) rfl (Nat.le_of_ble_eq_true rfl) h
  rw [e1, e2] at hE
  exact hE
set_option maxRecDepth 20000 in
theorem f35 {xs : List Int32} (hxs : xs.length ≤ 2048) (d : Nat) (S : qq_S) (hp : True) : qq_E xs (d + 1) 35 [.inr (4, none)] S (some (S 4 1)) (qq_u S 4 1 (S 4 1 + 1)) := by
  have h : qq_p xs (d + 0) (mm_mr mm_m35) (mm_mk mm_m35) (fun r S' => r = some (S 4 1) ∧ S' = qq_u S 4 1 (S 4 1 + 1)) 0 (qq_ent mm_m35 [.inr (4, none)]) [] S := by
    refine qq_fsound hxs (sp_0_ok hxs (d + 0)) [] 200 ?_
    repeat' first | apply And.intro | intro _
    all_goals (first | rfl | omega | grind [qq_in, qq_u])
  obtain ⟨r, S', hE, e1, e2⟩ := qq_call_of (y := 35) rfl (Nat.le_of_ble_eq_true rfl) h
  rw [e1, e2] at hE
  exact hE
def sp_4 : qq_P := fun y as S => match y, as with
  | 110, [.inl a, .inl lo, .inl hi] => some (qq_in a ∧ qq_in lo ∧ qq_in hi, some (zz_b (lo ≤ a ∧ a ≤ hi)), S)
  | 114, [.inl a, .inl lo, .inl hi] => some (qq_in a ∧ qq_in lo ∧ qq_in hi, some (zz_b (lo ≤ a ∧ a ≤ hi)), S)
  | 108, [.inr (3, none), .inl a] => some (True, some (a), qq_u S 3 9 a)
  | 109, [.inr (3, none), .inl a] => some (True, some (a), qq_u S 3 9 0)
  | 115, [.inr (115, none), .inl a] => some (qq_in a, some (a), qq_u S 115 0 (if a < 0 then a else 0))
  | 31, [.inr (4, none), .inl a] => some (qq_in a ∧ qq_in (S 4 0), some (zz_b (0 ≤ a ∧ a < S 4 0)), S)
  | 32, [.inr (4, none), .inl a] => some (qq_in a ∧ qq_in (S 4 1), some (zz_b (0 ≤ a ∧ a < S 4 1)), S)
  | 107, [.inr (3, none)] => some (True, some (S 3 9), S)
  | 177, [.inr (115, none)] => some (True, some (S 115 0), S)
  | 45, [.inr (48, none)] => some (True, some (S 48 0 * S 48 1), S)
  | 46, [.inr (48, none), .inl a] => some (0 ≤ a ∧ a < 10 ∧ qq_in (S 49 a.toNat), some (zz_b (¬ S 49 a.toNat = -1)), S)
  | 52, [.inr (48, none), .inl a, .inl b] => some (0 ≤ a ∧ a < 10 ∧ 0 ≤ b ∧ b < 10 ∧ (-8 ≤ S 49 a.toNat ∧ S 49 a.toNat ≤ 8 ∧ -8 ≤ S 49 b.toNat ∧ S 49 b.toNat ≤ 8 ∧ -8 ≤ S 50 a.toNat ∧ S 50 a.toNat ≤ 8 ∧ -8 ≤ S 50 b.toNat ∧ S 50 b.toNat ≤ 8), some (zz_dir (S 49 b.toNat - S 49 a.toNat) (S 50 b.toNat - S 50 a.toNat)), S)
  | 45, [.inr (56, none)] => some (True, some (S 56 0 * S 56 1), S)
  | 46, [.inr (56, none), .inl a] => some (0 ≤ a ∧ a < 10 ∧ qq_in (S 57 a.toNat), some (zz_b (¬ S 57 a.toNat = -1)), S)
  | 52, [.inr (56, none), .inl a, .inl b] => some (0 ≤ a ∧ a < 10 ∧ 0 ≤ b ∧ b < 10 ∧ (-8 ≤ S 57 a.toNat ∧ S 57 a.toNat ≤ 8 ∧ -8 ≤ S 57 b.toNat ∧ S 57 b.toNat ≤ 8 ∧ -8 ≤ S 58 a.toNat ∧ S 58 a.toNat ≤ 8 ∧ -8 ≤ S 58 b.toNat ∧ S 58 b.toNat ≤ 8), some (zz_dir (S 57 b.toNat - S 57 a.toNat) (S 58 b.toNat - S 58 a.toNat)), S)
  | 64, [.inl a, .inl b] => some (-100 ≤ a ∧ a ≤ 100 ∧ -100 ≤ b ∧ b ≤ 100, some (if 4 < qq_and (a - b) 7 then 8 - qq_and (a - b) 7 else qq_and (a - b) 7), S)
  | 111, [.inl a] => some (qq_in a, some (zz_b (0 ≤ a ∧ a ≤ 100)), S)
  | 116, [.inr (115, none), .inl a] => some (qq_in a ∧ 0 ≤ S 115 1 ∧ S 115 1 ≤ 10, some (zz_b (0 ≤ a ∧ a < S 115 1)), S)
  | 92, [.inr (3, none), .inl a] => some (qq_in a, some (if 1 ≤ a ∧ a ≤ 4 then S 52 3 else -1), if 1 ≤ a ∧ a ≤ 4 then qq_u (qq_u S 52 3 a) 3 9 0 else qq_u S 3 9 (-1))
  | 132, [.inr (115, none), .inl a] => some (qq_in a ∧ 0 ≤ S 115 14 ∧ S 115 14 ≤ 4, some (if 1 ≤ a ∧ a ≤ 4 then S 115 14 else -1), if 1 ≤ a ∧ a ≤ 4 then qq_u (qq_u S 115 14 a) 115 0 0 else qq_u S 115 0 (-1))
  | 93, [.inr (3, none), .inl a, .inl b, .inl c] => some (qq_in a ∧ qq_in b ∧ qq_in c, some (if 0 ≤ a ∧ a ≤ 100 ∧ 0 ≤ b ∧ b ≤ 100 ∧ 0 ≤ c ∧ c ≤ 100 then 0 else -1), if 0 ≤ a ∧ a ≤ 100 ∧ 0 ≤ b ∧ b ≤ 100 ∧ 0 ≤ c ∧ c ≤ 100 then qq_u (qq_u (qq_u (qq_u S 52 0 a) 52 1 b) 52 2 c) 3 9 0 else qq_u S 3 9 (-1))
  | 133, [.inr (115, none), .inl a, .inl b, .inl c] => some (qq_in a ∧ qq_in b ∧ qq_in c, some (if 0 ≤ a ∧ a ≤ 100 ∧ 0 ≤ b ∧ b ≤ 100 ∧ 0 ≤ c ∧ c ≤ 100 then 0 else -1), if 0 ≤ a ∧ a ≤ 100 ∧ 0 ≤ b ∧ b ≤ 100 ∧ 0 ≤ c ∧ c ≤ 100 then qq_u (qq_u (qq_u (qq_u S 115 15 a) 115 16 b) 115 17 c) 115 0 0 else qq_u S 115 0 (-1))
  | 47, [.inr (48, none), .inl a] => some (0 ≤ a ∧ a < 10 ∧ qq_in (S 49 a.toNat), some (if S 49 a.toNat = -1 then -1 else S 50 a.toNat * S 48 0 + S 49 a.toNat), S)
  | 48, [.inr (48, none), .inl a, .inl p] => some (0 ≤ a ∧ a < 10 ∧ qq_in p ∧ 0 ≤ S 48 0 ∧ S 48 0 ≤ 8, none, if p < 0 ∨ S 48 0 < 1 then qq_u (qq_u S 49 a.toNat (-1)) 50 a.toNat (-1) else qq_u (qq_u S 49 a.toNat (p % S 48 0)) 50 a.toNat (p / S 48 0))
  | 47, [.inr (56, none), .inl a] => some (0 ≤ a ∧ a < 10 ∧ qq_in (S 57 a.toNat), some (if S 57 a.toNat = -1 then -1 else S 58 a.toNat * S 56 0 + S 57 a.toNat), S)
  | 48, [.inr (56, none), .inl a, .inl p] => some (0 ≤ a ∧ a < 10 ∧ qq_in p ∧ 0 ≤ S 56 0 ∧ S 56 0 ≤ 8, none, if p < 0 ∨ S 56 0 < 1 then qq_u (qq_u S 57 a.toNat (-1)) 58 a.toNat (-1) else qq_u (qq_u S 57 a.toNat (p % S 56 0)) 58 a.toNat (p / S 56 0))
  | 35, [.inr (4, none)] => some (True, some (S 4 1), qq_u S 4 1 (S 4 1 + 1))
  | _, _ => none
theorem sp_4_ok {xs : List Int32} (hxs : xs.length ≤ 2048) (d : Nat) : qq_ok xs (d + 3) sp_4 := by
  intro y as S pre r S2 h hp
  unfold sp_4 at h
  split at h
  · cases h; exact f110 hxs (d + 2) S _ _ _ hp
  · cases h; exact f114 hxs (d + 2) S _ _ _ hp
  · cases h; exact f108 hxs (d + 2) S _ hp
  · cases h; exact f109 hxs (d + 2) S _ hp
  · cases h; exact f115 hxs (d + 2) S _ hp
  · cases h; exact f31 hxs (d + 2) S _ hp
  · cases h; exact f32 hxs (d + 2) S _ hp
  · cases h; exact f107 hxs (d + 2) S hp
  · cases h; exact f177 hxs (d + 2) S hp
  · cases h; exact f45_48 hxs (d + 2) S hp
  · cases h; exact f46_48 hxs (d + 2) S _ hp
  · cases h; exact f52_48 hxs (d + 2) S _ _ hp
  · cases h; exact f45_56 hxs (d + 2) S hp
  · cases h; exact f46_56 hxs (d + 2) S _ hp
  · cases h; exact f52_56 hxs (d + 2) S _ _ hp
  · cases h; exact f64 hxs (d + 2) S _ _ hp
  · cases h; exact f111 hxs (d + 1) S _ hp
  · cases h; exact f116 hxs (d + 1) S _ hp
  · cases h; exact f92 hxs (d + 1) S _ hp
  · cases h; exact f132 hxs (d + 1) S _ hp
  · cases h; exact f93 hxs (d + 0) S _ _ _ hp
  · cases h; exact f133 hxs (d + 1) S _ _ _ hp
  · cases h; exact f47_48 hxs (d + 1) S _ hp
  · cases h; exact f48_48 hxs (d + 2) S _ _ hp
  · cases h; exact f47_56 hxs (d + 1) S _ hp
  · cases h; exact f48_56 hxs (d + 2) S _ _ hp
  · cases h; exact f35 hxs (d + 2) S hp
  · cases h
set_option maxRecDepth 20000 in
theorem f86 {xs : List Int32} (hxs : xs.length ≤ 2048) (d : Nat) (S : qq_S) (hp : 0 ≤ S 4 1 ∧ S 4 1 ≤ 6) : qq_E xs (d + 4) 86 [.inr (3, none)] S (some (if S 4 1 < 6 then S 4 1 else -5)) (if S 4 1 < 6 then qq_u (qq_u S 4 1 (S 4 1 + 1)) 3 9 0 else qq_u S 3 9 (-5)) := by
  have h : qq_p xs (d + 3) (mm_mr mm_m86) (mm_mk mm_m86) (fun r S' => r = some (if S 4 1 < 6 then S 4 1 else -5) ∧ S' = if S 4 1 < 6 then qq_u (qq_u S 4 1 (S 4 1 + 1)) 3 9 0 else qq_u S 3 9 (-5)) 0 (qq_ent mm_m86 [.inr (3, none)]) [] S := by
    refine qq_fsound hxs (sp_4_ok hxs (d + 0)) [] 200 ?_
    repeat' first | apply And.intro | intro _
    all_goals (first | rfl | omega | grind [qq_in, zz_b, zz_pt])
  obtain ⟨r, S', hE, e1, e2⟩ := qq_call_of (y := 86) rfl (Nat.le_of_ble_eq_true rfl) h
  rw [e1, e2] at hE
  exact hE
set_option maxRecDepth 20000 in
theorem f118 {xs : List Int32} (hxs : xs.length ≤ 2048) (d : Nat) (S : qq_S) (hp : 0 ≤ S 115 2 ∧ S 115 2 ≤ 6) : qq_E xs (d + 4) 118 [.inr (115, none)] S (some (if S 115 2 < 6 then S 115 2 else -5)) (if S 115 2 < 6 then qq_u (qq_u (qq_u S 118 (S 115 2).toNat 0) 115 2 (S 115 2 + 1)) 115 0 0 else qq_u S 115 0 (-5)) := by
  have h : qq_p xs (d + 3) (mm_mr mm_m118) (mm_mk mm_m118) (fun r S' => r = some (if S 115 2 < 6 then S 115 2 else -5) ∧ S' = if S 115 2 < 6 then qq_u (qq_u (qq_u S 118 (S 115 2).toNat 0) 115 2 (S 115 2 + 1)) 115 0 0 else qq_u S 115 0 (-5)) 0 (qq_ent mm_m118 [.inr (115, none)]) [] S := by
    refine qq_fsound hxs (sp_4_ok hxs (d + 0)) [] 200 ?_
    repeat' first | apply And.intro | intro _
    all_goals (first | rfl | omega | grind [qq_in, zz_b, qq_u])
  obtain ⟨r, S', hE, e1, e2⟩ := qq_call_of (y := 118) rfl (Nat.le_of_ble_eq_true rfl) h
  rw [e1, e2] at hE
  exact hE
set_option maxRecDepth 20000 in
theorem f88 {xs : List Int32} (hxs : xs.length ≤ 2048) (d : Nat) (S : qq_S) (a : Int) (b : Int) (hp : qq_in a ∧ qq_in b ∧ (0 ≤ S 4 1 ∧ S 4 1 ≤ 6) ∧ (0 ≤ a ∧ a < S 4 1 → 0 ≤ S 7 a.toNat ∧ S 7 a.toNat ≤ 10)) : qq_E xs (d + 4) 88 [.inr (3, none), .inl a, .inl b] S (some (if ¬ (0 ≤ a ∧ a < S 4 1) then -1 else if b = -1 then S 7 a.toNat else if 0 ≤ b ∧ b < S 7 a.toNat then S (8 + 1 + a.toNat) b.toNat else -1)) (S) := by
  have h : qq_p xs (d + 3) (mm_mr mm_m88) (mm_mk mm_m88) (fun r S' => r = some (if ¬ (0 ≤ a ∧ a < S 4 1) then -1 else if b = -1 then S 7 a.toNat else if 0 ≤ b ∧ b < S 7 a.toNat then S (8 + 1 + a.toNat) b.toNat else -1) ∧ S' = S) 0 (qq_ent mm_m88 [.inr (3, none), .inl a, .inl b]) [] S := by
    refine qq_fsound hxs (sp_4_ok hxs (d + 0)) [] 200 ?_
    repeat' first | apply And.intro | intro _
    all_goals (first | rfl | omega | grind [qq_in, zz_b, zz_pt])
  obtain ⟨r, S', hE, e1, e2⟩ := qq_call_of (y := 88) rfl (Nat.le_of_ble_eq_true rfl) h
  rw [e1, e2] at hE
  exact hE
set_option maxRecDepth 20000 in
theorem f120 {xs : List Int32} (hxs : xs.length ≤ 2048) (d : Nat) (S : qq_S) (a : Int) (b : Int) (hp : qq_in a ∧ qq_in b ∧ (0 ≤ S 115 2 ∧ S 115 2 ≤ 6) ∧ (0 ≤ a ∧ a < S 115 2 → 0 ≤ S 118 a.toNat ∧ S 118 a.toNat ≤ 10)) : qq_E xs (d + 4) 120 [.inr (115, none), .inl a, .inl b] S (some (if ¬ (0 ≤ a ∧ a < S 115 2) then -1 else if b = -1 then S 118 a.toNat else if 0 ≤ b ∧ b < S 118 a.toNat then S 119 (10 * a + b).toNat else -1)) (S) := by
  have h : qq_p xs (d + 3) (mm_mr mm_m120) (mm_mk mm_m120) (fun r S' => r = some (if ¬ (0 ≤ a ∧ a < S 115 2) then -1 else if b = -1 then S 118 a.toNat else if 0 ≤ b ∧ b < S 118 a.toNat then S 119 (10 * a + b).toNat else -1) ∧ S' = S) 0 (qq_ent mm_m120 [.inr (115, none), .inl a, .inl b]) [] S := by
    refine qq_fsound hxs (sp_4_ok hxs (d + 0)) [] 200 ?_
    repeat' first | apply And.intro | intro _
    all_goals (first | rfl | omega | grind [qq_in, zz_b, zz_pt])
  obtain ⟨r, S', hE, e1, e2⟩ := qq_call_of (y := 120) rfl (Nat.le_of_ble_eq_true rfl) h
  rw [e1, e2] at hE
  exact hE
end
section
theorem qq_op_of {xs : List Int32} {k1 k2 d y y' : Nat} {as : List qq_V} {S S1 S2 : qq_S} {r r' : Int} (e1 : qq_E xs k1 y (.inr (3, none) :: as) S (some r) S1) (e2 : qq_E xs k2 y' (.inr (115, none) :: as) S1 (some r') S2) (h1 : k1 ≤ d) (h2 : k2 ≤ d) (hr : r' = r) (hi : qq_in r) (hI : inv S2) : qq_op xs d y y' as S := by
  subst hr
  exact ⟨_, _, _, qq_up h1 e1, qq_up h2 e2, hi, hI⟩
theorem qq_un' {S : qq_S} {q k q' k' : Nat} {x : Int} (h : q' ≠ q) : qq_u S q k x q' k' = S q' k' := qq_un (Or.inl h)
theorem qq_un2 {S : qq_S} {q k k' : Nat} {x : Int} (h : k' ≠ k) : qq_u S q k x q k' = S q k' := qq_un (Or.inr h)
theorem o_status {xs : List Int32} (hxs : xs.length ≤ 2048) (S : qq_S) (hI : inv S) : qq_op xs 29 107 177 [] S :=
  qq_op_of (f107 hxs 0 S trivial) (f177 hxs 0 S trivial) (by decide) (by decide) hI.2.2.2.2.2.2.2.2.2.2.1 hI.2.2.2.2.2.2.2.2.2.2.2 hI
theorem zz_pt_bd {w h x y : Int} (hw : 2 ≤ w ∧ w ≤ 8 ∧ 2 ≤ h ∧ h ≤ 8) (hi : i_at w h x y) : -1 ≤ zz_pt w x y ∧ zz_pt w x y ≤ 63 ∧ (zz_pt w x y = -1 ↔ x = -1) := by
  unfold zz_pt
  rcases hi with ⟨h1, h2⟩ | ⟨h1, h2, h3, h4⟩
  · rw [if_pos h1]; omega
  · rw [if_neg (by omega)]
    have b1 := Int.mul_nonneg h3 (show 0 ≤ w by omega)
    have b2 := Int.mul_le_mul (show y ≤ 7 by omega) (show w ≤ 8 by omega) (show 0 ≤ w by omega) (by decide)
    omega
theorem pl_bd {n w h : Int} {X Y H : Nat → Int} {w' h' : Int} {P' H' : Nat → Int} (hp : i_plan n w h X Y H w' h' P' H') {s : Nat} (hs : s < 10) : -1 ≤ X s ∧ X s ≤ 7 ∧ -1 ≤ Y s ∧ Y s ≤ 7 ∧ (H s = 0 ∨ H s = 1) ∧ -1 ≤ zz_pt w (X s) (Y s) ∧ zz_pt w (X s) (Y s) ≤ 63 ∧ (zz_pt w (X s) (Y s) = -1 ↔ X s = -1) := by
  obtain ⟨a1, a2, a3⟩ := hp
  obtain ⟨b1, b2, b3, b4⟩ := a2 s hs
  have b5 := zz_pt_bd ⟨a1.1, a1.2.1, a1.2.2.1, a1.2.2.2.1⟩ b1
  unfold i_at at b1
  omega
theorem il_line {n L : Int} {Z Z' : Nat → Int} {row rank : Nat → Nat → Int} {lof : Nat → Int} (h : i_line n L Z Z' row rank lof) (h0 : 0 ≤ L) (h6 : L < 6) : i_line n (L + 1) Z (fun j => if j = L.toNat then 0 else Z' j) row rank lof := by
  obtain ⟨a1, a2, a3⟩ := h
  refine ⟨fun l hl => ?_, fun l h6 hl => a2 l h6 (by omega), a3⟩
  by_cases e : l = L.toNat
  · have z := a2 l (by omega) (by omega)
    simp only [if_pos e]
    rw [z]
    exact ⟨by omega, by omega, rfl, fun i hi => by omega⟩
  · simp only [if_neg e]
    exact a1 l (by omega)
theorem ie_line {n L E E' : Int} {X Y Z Z' : Nat → Int} {row rank : Nat → Nat → Int} {lof lo hi hd lo' hi' : Nat → Int} {eo : Nat → Nat → Int} (h2 : i_line n L Z Z' row rank lof) (h : i_edge n L E E' X Y Z row lo hi hd lo' hi' eo) (h0 : 0 ≤ L) (h6 : L < 6) : i_edge n (L + 1) E E' X Y Z row lo hi hd lo' hi' eo := by
  obtain ⟨a1, a2, a3, a4, a5⟩ := h
  refine ⟨a1, a2, a3, a4, fun a b ha hb => ⟨fun z => ?_, fun z => ?_⟩⟩
  · obtain ⟨l, i, hl, hi, hh⟩ := (a5 a b ha hb).mp z
    exact ⟨l, i, by omega, hi, hh⟩
  · obtain ⟨l, i, hl, hi, hh⟩ := z
    refine (a5 a b ha hb).mpr ⟨l, i, ?_, hi, hh⟩
    by_cases e : (l : Int) < L
    · exact e
    · have := h2.2.1 l (by omega) (by omega)
      omega
theorem qq_usf {S : qq_S} {q k : Nat} {x : Int} : qq_u S q k x q = fun j => if j = k then x else S q j := by
  funext j
  exact qq_uself j
theorem ip_place {n w h a x y : Int} {X Y H : Nat → Int} {w' h' : Int} {P' H' : Nat → Int} (hp : i_plan n w h X Y H w' h' P' H') (hx : 0 ≤ x ∧ x < w ∧ 0 ≤ y ∧ y < h) (ha : 0 ≤ a ∧ a < n) : i_plan n w h (fun j => if j = a.toNat then x else X j) (fun j => if j = a.toNat then y else Y j) H w' h' (fun j => if j = a.toNat then y * w + x else P' j) H' := by
  obtain ⟨a1, a2, a3⟩ := hp
  refine ⟨a1, fun s hs => ?_, fun s hs => ?_⟩
  · obtain ⟨b1, b2, b3, b4⟩ := a2 s hs
    by_cases e : s = a.toNat
    · simp only [if_pos e]
      exact ⟨Or.inr hx, b2, fun z => by omega, fun z => by omega⟩
    · simp only [if_neg e]
      exact ⟨b1, b2, b3, b4⟩
  · obtain ⟨b1, b2⟩ := a3 s hs
    refine ⟨b1, ?_⟩
    by_cases e : s = a.toNat
    · simp only [if_pos e]
      unfold zz_pt
      rw [if_neg (by omega)]
    · simp only [if_neg e]
      exact b2
theorem ip_hold {n w h a b : Int} {X Y H : Nat → Int} {w' h' : Int} {P' H' : Nat → Int} (hp : i_plan n w h X Y H w' h' P' H') (hb : b = 0 ∨ b = 1) (ha : 0 ≤ a ∧ a < n) (hx : ¬ X a.toNat = -1) : i_plan n w h X Y (fun j => if j = a.toNat then b else H j) w' h' P' (fun j => if j = a.toNat then b else H' j) := by
  obtain ⟨a1, a2, a3⟩ := hp
  refine ⟨a1, fun s hs => ?_, fun s hs => ?_⟩
  · obtain ⟨b1, b2, b3, b4⟩ := a2 s hs
    by_cases e : s = a.toNat
    · simp only [if_pos e]
      exact ⟨b1, hb, fun z => absurd (e ▸ z) hx, b4⟩
    · simp only [if_neg e]
      exact ⟨b1, b2, b3, b4⟩
  · obtain ⟨b1, b2⟩ := a3 s hs
    refine ⟨?_, b2⟩
    by_cases e : s = a.toNat
    · simp only [if_pos e]
    · simp only [if_neg e]
      exact b1
theorem in_name {n a b : Int} {N sd hn : Nat → Int} {put : Int} {N' hn' sd' : Nat → Int} (h : i_names n N sd hn put N' hn' sd') (hb : 0 ≤ b ∧ b ≤ 12) (ha : 0 ≤ a ∧ a < n) : i_names n (fun j => if j = a.toNat then b else N j) sd hn put (fun j => if j = a.toNat then b else N' j) hn' sd' := by
  obtain ⟨a1, a2⟩ := h
  refine ⟨a1, fun s hs => ?_⟩
  obtain ⟨b1, b2, b3, b4, b5⟩ := a2 s hs
  by_cases e : s = a.toNat
  · simp only [if_pos e]
    exact ⟨hb.1, hb.2, fun _ => trivial, fun z => by omega, b5⟩
  · simp only [if_neg e]
    exact ⟨b1, b2, b3, b4, b5⟩
theorem o_span {xs : List Int32} (hxs : xs.length ≤ 2048) (S : qq_S) (a : Int) (ha : qq_in a) (hI : inv S) : qq_op xs 29 92 132 [.inl a] S := by
  have hI0 := hI
  obtain ⟨h1, h2, h3, h4, h5, h6, h7, h8, h9, h10, h11⟩ := hI
  have g1 := h1
  have g5 := h5
  have g6 := h6
  have g7 := h7
  unfold i_net at g1
  unfold i_plan at g5
  unfold i_terms at g6
  unfold i_names at g7
  have e1 := f92 hxs 0 S a ha
  by_cases c0 : 1 ≤ a ∧ a ≤ 4
  · simp only [c0, not_true_eq_false, not_false_eq_true, if_true, if_false, ite_true, ite_false, and_self, true_and, and_true] at e1
    have e2 := f132 hxs 0 (qq_u (qq_u S 52 3 a) 3 9 0) a (by (try simp (decide := true) only [qq_un', qq_us]); exact ⟨ha, by omega, by omega⟩)
    try simp (decide := true) only [qq_un'] at e2
    have q0 : S 115 14 = S 52 3 := by omega
    simp only [q0] at e2
    simp only [c0, not_true_eq_false, not_false_eq_true, if_true, if_false, ite_true, ite_false, and_self, true_and, and_true] at e2
    refine qq_op_of e1 e2 (by decide) (by decide) (rfl) (by unfold qq_in; omega) ?_
    unfold inv
    simp (decide := true) only [qq_un', qq_un2, qq_us, qq_ueq, qq_R_u, qq_usf]
    refine ⟨h1, h2, h3, h4, h5, ?_, h7, h8, h9, h10, ?_⟩
    · unfold i_terms; omega
    · exact ⟨by first | trivial | omega, by unfold qq_in; omega⟩
  · simp only [c0, not_true_eq_false, not_false_eq_true, if_true, if_false, ite_true, ite_false, and_self, true_and, and_true] at e1
    have e2 := f132 hxs 0 (qq_u S 3 9 (-1)) a (by (try simp (decide := true) only [qq_un', qq_us]); exact ⟨ha, by omega, by omega⟩)
    try simp (decide := true) only [qq_un'] at e2
    have q0 : S 115 14 = S 52 3 := by omega
    simp only [q0] at e2
    simp only [c0, not_true_eq_false, not_false_eq_true, if_true, if_false, ite_true, ite_false, and_self, true_and, and_true] at e2
    refine qq_op_of e1 e2 (by decide) (by decide) (rfl) (by unfold qq_in; omega) ?_
    unfold inv
    simp (decide := true) only [qq_un', qq_un2, qq_us, qq_ueq, qq_R_u, qq_usf]
    refine ⟨h1, h2, h3, h4, h5, h6, h7, h8, h9, h10, ?_⟩
    · exact ⟨by first | trivial | omega, by unfold qq_in; omega⟩
theorem o_terms {xs : List Int32} (hxs : xs.length ≤ 2048) (S : qq_S) (a : Int) (b : Int) (c : Int) (ha : qq_in a) (hb : qq_in b) (hc : qq_in c) (hI : inv S) : qq_op xs 29 93 133 [.inl a, .inl b, .inl c] S := by
  have hI0 := hI
  obtain ⟨h1, h2, h3, h4, h5, h6, h7, h8, h9, h10, h11⟩ := hI
  have g1 := h1
  have g5 := h5
  have g6 := h6
  have g7 := h7
  unfold i_net at g1
  unfold i_plan at g5
  unfold i_terms at g6
  unfold i_names at g7
  have e1 := f93 hxs 0 S a b c ⟨ha, hb, hc⟩
  by_cases c0 : 0 ≤ a ∧ a ≤ 100 ∧ 0 ≤ b ∧ b ≤ 100 ∧ 0 ≤ c ∧ c ≤ 100
  · simp only [c0, not_true_eq_false, not_false_eq_true, if_true, if_false, ite_true, ite_false, and_self, true_and, and_true] at e1
    have e2 := f133 hxs 0 (qq_u (qq_u (qq_u (qq_u S 52 0 a) 52 1 b) 52 2 c) 3 9 0) a b c (by (try simp (decide := true) only [qq_un', qq_us]); exact ⟨ha, hb, hc⟩)
    try simp (decide := true) only [qq_un'] at e2
    simp only [c0, not_true_eq_false, not_false_eq_true, if_true, if_false, ite_true, ite_false, and_self, true_and, and_true] at e2
    refine qq_op_of e1 e2 (by decide) (by decide) (rfl) (by unfold qq_in; omega) ?_
    unfold inv
    simp (decide := true) only [qq_un', qq_un2, qq_us, qq_ueq, qq_R_u, qq_usf]
    refine ⟨h1, h2, h3, h4, h5, ?_, h7, h8, h9, h10, ?_⟩
    · unfold i_terms; omega
    · exact ⟨by first | trivial | omega, by unfold qq_in; omega⟩
  · simp only [c0, not_true_eq_false, not_false_eq_true, if_true, if_false, ite_true, ite_false, and_self, true_and, and_true] at e1
    have e2 := f133 hxs 0 (qq_u S 3 9 (-1)) a b c (by (try simp (decide := true) only [qq_un', qq_us]); exact ⟨ha, hb, hc⟩)
    try simp (decide := true) only [qq_un'] at e2
    simp only [c0, not_true_eq_false, not_false_eq_true, if_true, if_false, ite_true, ite_false, and_self, true_and, and_true] at e2
    refine qq_op_of e1 e2 (by decide) (by decide) (rfl) (by unfold qq_in; omega) ?_
    unfold inv
    simp (decide := true) only [qq_un', qq_un2, qq_us, qq_ueq, qq_R_u, qq_usf]
    refine ⟨h1, h2, h3, h4, h5, h6, h7, h8, h9, h10, ?_⟩
    · exact ⟨by first | trivial | omega, by unfold qq_in; omega⟩
theorem o_point {xs : List Int32} (hxs : xs.length ≤ 2048) (S : qq_S) (a : Int) (ha : qq_in a) (hI : inv S) : qq_op xs 29 95 135 [.inl a] S := by
  have hI0 := hI
  obtain ⟨h1, h2, h3, h4, h5, h6, h7, h8, h9, h10, h11⟩ := hI
  have g1 := h1
  have g5 := h5
  have g6 := h6
  have g7 := h7
  unfold i_net at g1
  unfold i_plan at g5
  unfold i_terms at g6
  unfold i_names at g7
  have e1 := f95 hxs 0 S a ⟨ha, by omega, fun hst => by have := pl_bd h5 (show a.toNat < 10 by omega); unfold qq_in; omega⟩
  by_cases c0 : 0 ≤ a ∧ a < S 4 0
  · simp only [c0, not_true_eq_false, not_false_eq_true, if_true, if_false, ite_true, ite_false, and_self, true_and, and_true] at e1
    have e2 := f135 hxs 0 (S) a (by skip; exact ⟨ha, by omega⟩)
    have q0 : S 115 1 = S 4 0 := by omega
    simp only [q0] at e2
    simp only [c0, not_true_eq_false, not_false_eq_true, if_true, if_false, ite_true, ite_false, and_self, true_and, and_true] at e2
    refine qq_op_of e1 e2 (by decide) (by decide) ((g5.2.2 a.toNat (by omega)).2) (by have := pl_bd h5 (show a.toNat < 10 by omega); unfold qq_in; omega) ?_
    exact hI0
  · simp only [c0, not_true_eq_false, not_false_eq_true, if_true, if_false, ite_true, ite_false, and_self, true_and, and_true] at e1
    have e2 := f135 hxs 0 (S) a (by skip; exact ⟨ha, by omega⟩)
    have q0 : S 115 1 = S 4 0 := by omega
    simp only [q0] at e2
    simp only [c0, not_true_eq_false, not_false_eq_true, if_true, if_false, ite_true, ite_false, and_self, true_and, and_true] at e2
    refine qq_op_of e1 e2 (by decide) (by decide) (rfl) (by unfold qq_in; omega) ?_
    exact hI0
theorem o_place {xs : List Int32} (hxs : xs.length ≤ 2048) (S : qq_S) (a : Int) (x : Int) (y : Int) (ha : qq_in a) (hx : qq_in x) (hy : qq_in y) (hI : inv S) : qq_op xs 29 94 134 [.inl a, .inl x, .inl y] S := by
  have hI0 := hI
  obtain ⟨h1, h2, h3, h4, h5, h6, h7, h8, h9, h10, h11⟩ := hI
  have g1 := h1
  have g5 := h5
  have g6 := h6
  have g7 := h7
  unfold i_net at g1
  unfold i_plan at g5
  unfold i_terms at g6
  unfold i_names at g7
  have e1 := f94 hxs 0 S a x y ⟨ha, hx, hy, by omega, by omega, fun hst => by have := pl_bd h5 (show a.toNat < 10 by omega); unfold qq_in; omega⟩
  by_cases c0 : (0 ≤ x ∧ x < S 48 0 ∧ 0 ≤ y ∧ y < S 48 1)
  · by_cases c1 : 0 ≤ a ∧ a < S 4 0
    · by_cases c2 : S 51 a.toNat = 0
      · simp only [c0, c1, c2, not_true_eq_false, not_false_eq_true, if_true, if_false, ite_true, ite_false, and_self, true_and, and_true] at e1
        have e2 := f134 hxs 0 (qq_u (qq_u (qq_u S 49 a.toNat x) 50 a.toNat y) 3 9 0) a x y (by (try simp (decide := true) only [qq_un', qq_us]); exact ⟨ha, hx, hy, by omega, by omega, fun hst => by have := pl_bd h5 (show a.toNat < 10 by omega); have := (g5.2.2 a.toNat (by omega)).1; unfold qq_in; omega⟩)
        try simp (decide := true) only [qq_un'] at e2
        have q0 : S 115 1 = S 4 0 := by omega
        have q1 : S 115 12 = S 48 0 := by omega
        have q2 : S 115 13 = S 48 1 := by omega
        simp only [q0, q1, q2] at e2
        have x0 : S 124 a.toNat = S 51 a.toNat := (g5.2.2 a.toNat (by omega)).1
        simp only [x0] at e2
        simp only [c0, c1, c2, not_true_eq_false, not_false_eq_true, if_true, if_false, ite_true, ite_false, and_self, true_and, and_true] at e2
        refine qq_op_of e1 e2 (by decide) (by decide) (rfl) (by unfold qq_in; omega) ?_
        unfold inv
        simp (decide := true) only [qq_un', qq_un2, qq_us, qq_ueq, qq_R_u, qq_usf]
        refine ⟨h1, h2, h3, h4, ?_, h6, h7, h8, h9, h10, ?_⟩
        · exact ip_place h5 c0 c1
        · exact ⟨by first | trivial | omega, by unfold qq_in; omega⟩
      · simp only [c0, c1, c2, not_true_eq_false, not_false_eq_true, if_true, if_false, ite_true, ite_false, and_self, true_and, and_true] at e1
        have e2 := f134 hxs 0 (qq_u S 3 9 (-6)) a x y (by (try simp (decide := true) only [qq_un', qq_us]); exact ⟨ha, hx, hy, by omega, by omega, fun hst => by have := pl_bd h5 (show a.toNat < 10 by omega); have := (g5.2.2 a.toNat (by omega)).1; unfold qq_in; omega⟩)
        try simp (decide := true) only [qq_un'] at e2
        have q0 : S 115 1 = S 4 0 := by omega
        have q1 : S 115 12 = S 48 0 := by omega
        have q2 : S 115 13 = S 48 1 := by omega
        simp only [q0, q1, q2] at e2
        have x0 : S 124 a.toNat = S 51 a.toNat := (g5.2.2 a.toNat (by omega)).1
        simp only [x0] at e2
        simp only [c0, c1, c2, not_true_eq_false, not_false_eq_true, if_true, if_false, ite_true, ite_false, and_self, true_and, and_true] at e2
        refine qq_op_of e1 e2 (by decide) (by decide) (rfl) (by unfold qq_in; omega) ?_
        unfold inv
        simp (decide := true) only [qq_un', qq_un2, qq_us, qq_ueq, qq_R_u, qq_usf]
        refine ⟨h1, h2, h3, h4, h5, h6, h7, h8, h9, h10, ?_⟩
        · exact ⟨by first | trivial | omega, by unfold qq_in; omega⟩
    · simp only [c0, c1, not_true_eq_false, not_false_eq_true, if_true, if_false, ite_true, ite_false, and_self, true_and, and_true] at e1
      have e2 := f134 hxs 0 (qq_u S 3 9 (-2)) a x y (by (try simp (decide := true) only [qq_un', qq_us]); exact ⟨ha, hx, hy, by omega, by omega, fun hst => by have := pl_bd h5 (show a.toNat < 10 by omega); have := (g5.2.2 a.toNat (by omega)).1; unfold qq_in; omega⟩)
      try simp (decide := true) only [qq_un'] at e2
      have q0 : S 115 1 = S 4 0 := by omega
      have q1 : S 115 12 = S 48 0 := by omega
      have q2 : S 115 13 = S 48 1 := by omega
      simp only [q0, q1, q2] at e2
      simp only [c0, c1, not_true_eq_false, not_false_eq_true, if_true, if_false, ite_true, ite_false, and_self, true_and, and_true] at e2
      refine qq_op_of e1 e2 (by decide) (by decide) (rfl) (by unfold qq_in; omega) ?_
      unfold inv
      simp (decide := true) only [qq_un', qq_un2, qq_us, qq_ueq, qq_R_u, qq_usf]
      refine ⟨h1, h2, h3, h4, h5, h6, h7, h8, h9, h10, ?_⟩
      · exact ⟨by first | trivial | omega, by unfold qq_in; omega⟩
  · simp only [c0, not_true_eq_false, not_false_eq_true, if_true, if_false, ite_true, ite_false, and_self, true_and, and_true] at e1
    have e2 := f134 hxs 0 (qq_u S 3 9 (-1)) a x y (by (try simp (decide := true) only [qq_un', qq_us]); exact ⟨ha, hx, hy, by omega, by omega, fun hst => by have := pl_bd h5 (show a.toNat < 10 by omega); have := (g5.2.2 a.toNat (by omega)).1; unfold qq_in; omega⟩)
    try simp (decide := true) only [qq_un'] at e2
    have q0 : S 115 1 = S 4 0 := by omega
    have q1 : S 115 12 = S 48 0 := by omega
    have q2 : S 115 13 = S 48 1 := by omega
    simp only [q0, q1, q2] at e2
    simp only [c0, not_true_eq_false, not_false_eq_true, if_true, if_false, ite_true, ite_false, and_self, true_and, and_true] at e2
    refine qq_op_of e1 e2 (by decide) (by decide) (rfl) (by unfold qq_in; omega) ?_
    unfold inv
    simp (decide := true) only [qq_un', qq_un2, qq_us, qq_ueq, qq_R_u, qq_usf]
    refine ⟨h1, h2, h3, h4, h5, h6, h7, h8, h9, h10, ?_⟩
    · exact ⟨by first | trivial | omega, by unfold qq_in; omega⟩
theorem o_hold {xs : List Int32} (hxs : xs.length ≤ 2048) (S : qq_S) (a : Int) (b : Int) (ha : qq_in a) (hb : b = 0 ∨ b = 1) (hI : inv S) : qq_op xs 29 96 136 [.inl a, .inl b] S := by
  have hI0 := hI
  obtain ⟨h1, h2, h3, h4, h5, h6, h7, h8, h9, h10, h11⟩ := hI
  have g1 := h1
  have g5 := h5
  have g6 := h6
  have g7 := h7
  unfold i_net at g1
  unfold i_plan at g5
  unfold i_terms at g6
  unfold i_names at g7
  have e1 := f96 hxs 0 S a b ⟨ha, hb, by omega, fun hst => by have := pl_bd h5 (show a.toNat < 10 by omega); unfold qq_in; omega⟩
  by_cases c0 : 0 ≤ a ∧ a < S 4 0
  · by_cases c1 : S 49 a.toNat = -1
    · simp only [c0, c1, not_true_eq_false, not_false_eq_true, if_true, if_false, ite_true, ite_false, and_self, true_and, and_true] at e1
      have e2 := f136 hxs 0 (qq_u S 3 9 (-2)) a b (by (try simp (decide := true) only [qq_un', qq_us]); exact ⟨ha, hb, by omega, fun hst => by have := pl_bd h5 (show a.toNat < 10 by omega); have := (g5.2.2 a.toNat (by omega)).2; unfold qq_in; omega⟩)
      try simp (decide := true) only [qq_un'] at e2
      have q0 : S 115 1 = S 4 0 := by omega
      simp only [q0] at e2
      have x0 : (S 123 a.toNat = -1) = (S 49 a.toNat = -1) := propext (by have e9 := (g5.2.2 a.toNat (by omega)).2; have := pl_bd h5 (show a.toNat < 10 by omega); omega)
      simp only [x0] at e2
      simp only [c0, c1, not_true_eq_false, not_false_eq_true, if_true, if_false, ite_true, ite_false, and_self, true_and, and_true] at e2
      refine qq_op_of e1 e2 (by decide) (by decide) (rfl) (by unfold qq_in; omega) ?_
      unfold inv
      simp (decide := true) only [qq_un', qq_un2, qq_us, qq_ueq, qq_R_u, qq_usf]
      refine ⟨h1, h2, h3, h4, h5, h6, h7, h8, h9, h10, ?_⟩
      · exact ⟨by first | trivial | omega, by unfold qq_in; omega⟩
    · simp only [c0, c1, not_true_eq_false, not_false_eq_true, if_true, if_false, ite_true, ite_false, and_self, true_and, and_true] at e1
      have e2 := f136 hxs 0 (qq_u (qq_u S 51 a.toNat b) 3 9 0) a b (by (try simp (decide := true) only [qq_un', qq_us]); exact ⟨ha, hb, by omega, fun hst => by have := pl_bd h5 (show a.toNat < 10 by omega); have := (g5.2.2 a.toNat (by omega)).2; unfold qq_in; omega⟩)
      try simp (decide := true) only [qq_un'] at e2
      have q0 : S 115 1 = S 4 0 := by omega
      simp only [q0] at e2
      have x0 : (S 123 a.toNat = -1) = (S 49 a.toNat = -1) := propext (by have e9 := (g5.2.2 a.toNat (by omega)).2; have := pl_bd h5 (show a.toNat < 10 by omega); omega)
      simp only [x0] at e2
      simp only [c0, c1, not_true_eq_false, not_false_eq_true, if_true, if_false, ite_true, ite_false, and_self, true_and, and_true] at e2
      refine qq_op_of e1 e2 (by decide) (by decide) (rfl) (by unfold qq_in; omega) ?_
      unfold inv
      simp (decide := true) only [qq_un', qq_un2, qq_us, qq_ueq, qq_R_u, qq_usf]
      refine ⟨h1, h2, h3, h4, ?_, h6, h7, h8, h9, h10, ?_⟩
      · exact ip_hold h5 hb c0 c1
      · exact ⟨by first | trivial | omega, by unfold qq_in; omega⟩
  · simp only [c0, not_true_eq_false, not_false_eq_true, if_true, if_false, ite_true, ite_false, and_self, true_and, and_true] at e1
    have e2 := f136 hxs 0 (qq_u S 3 9 (-2)) a b (by (try simp (decide := true) only [qq_un', qq_us]); exact ⟨ha, hb, by omega, fun hst => by have := pl_bd h5 (show a.toNat < 10 by omega); have := (g5.2.2 a.toNat (by omega)).2; unfold qq_in; omega⟩)
    try simp (decide := true) only [qq_un'] at e2
    have q0 : S 115 1 = S 4 0 := by omega
    simp only [q0] at e2
    simp only [c0, not_true_eq_false, not_false_eq_true, if_true, if_false, ite_true, ite_false, and_self, true_and, and_true] at e2
    refine qq_op_of e1 e2 (by decide) (by decide) (rfl) (by unfold qq_in; omega) ?_
    unfold inv
    simp (decide := true) only [qq_un', qq_un2, qq_us, qq_ueq, qq_R_u, qq_usf]
    refine ⟨h1, h2, h3, h4, h5, h6, h7, h8, h9, h10, ?_⟩
    · exact ⟨by first | trivial | omega, by unfold qq_in; omega⟩
theorem o_name {xs : List Int32} (hxs : xs.length ≤ 2048) (S : qq_S) (a : Int) (b : Int) (ha : qq_in a) (hb : qq_in b) (hI : inv S) : qq_op xs 29 101 164 [.inl a, .inl b] S := by
  have hI0 := hI
  obtain ⟨h1, h2, h3, h4, h5, h6, h7, h8, h9, h10, h11⟩ := hI
  have g1 := h1
  have g5 := h5
  have g6 := h6
  have g7 := h7
  unfold i_net at g1
  unfold i_plan at g5
  unfold i_terms at g6
  unfold i_names at g7
  have e1 := f101 hxs 0 S a b ⟨ha, hb, by omega⟩
  by_cases c0 : (0 ≤ b ∧ b ≤ 12)
  · by_cases c1 : 0 ≤ a ∧ a < S 4 0
    · simp only [c0, c1, not_true_eq_false, not_false_eq_true, if_true, if_false, ite_true, ite_false, and_self, true_and, and_true] at e1
      have e2 := f164 hxs 0 (qq_u (qq_u S 95 a.toNat b) 3 9 0) a b (by (try simp (decide := true) only [qq_un', qq_us]); exact ⟨ha, hb, by omega, fun hst => by have := g7.2 a.toNat (by omega); omega⟩)
      try simp (decide := true) only [qq_un'] at e2
      have q0 : S 115 1 = S 4 0 := by omega
      simp only [q0] at e2
      simp only [c0, c1, not_true_eq_false, not_false_eq_true, if_true, if_false, ite_true, ite_false, and_self, true_and, and_true] at e2
      refine qq_op_of e1 e2 (by decide) (by decide) (by have := g7.2 a.toNat (by omega); omega) (by have := g7.2 a.toNat (by omega); unfold qq_in; omega) ?_
      unfold inv
      simp (decide := true) only [qq_un', qq_un2, qq_us, qq_ueq, qq_R_u, qq_usf]
      refine ⟨h1, h2, h3, h4, h5, h6, ?_, h8, h9, h10, ?_⟩
      · exact in_name h7 c0 c1
      · exact ⟨by first | trivial | omega, by unfold qq_in; omega⟩
    · simp only [c0, c1, not_true_eq_false, not_false_eq_true, if_true, if_false, ite_true, ite_false, and_self, true_and, and_true] at e1
      have e2 := f164 hxs 0 (qq_u S 3 9 (-2)) a b (by (try simp (decide := true) only [qq_un', qq_us]); exact ⟨ha, hb, by omega, fun hst => by have := g7.2 a.toNat (by omega); omega⟩)
      try simp (decide := true) only [qq_un'] at e2
      have q0 : S 115 1 = S 4 0 := by omega
      simp only [q0] at e2
      simp only [c0, c1, not_true_eq_false, not_false_eq_true, if_true, if_false, ite_true, ite_false, and_self, true_and, and_true] at e2
      refine qq_op_of e1 e2 (by decide) (by decide) (rfl) (by unfold qq_in; omega) ?_
      unfold inv
      simp (decide := true) only [qq_un', qq_un2, qq_us, qq_ueq, qq_R_u, qq_usf]
      refine ⟨h1, h2, h3, h4, h5, h6, h7, h8, h9, h10, ?_⟩
      · exact ⟨by first | trivial | omega, by unfold qq_in; omega⟩
  · simp only [c0, not_true_eq_false, not_false_eq_true, if_true, if_false, ite_true, ite_false, and_self, true_and, and_true] at e1
    have e2 := f164 hxs 0 (qq_u S 3 9 (-1)) a b (by (try simp (decide := true) only [qq_un', qq_us]); exact ⟨ha, hb, by omega, fun hst => by have := g7.2 a.toNat (by omega); omega⟩)
    try simp (decide := true) only [qq_un'] at e2
    have q0 : S 115 1 = S 4 0 := by omega
    simp only [q0] at e2
    simp only [c0, not_true_eq_false, not_false_eq_true, if_true, if_false, ite_true, ite_false, and_self, true_and, and_true] at e2
    refine qq_op_of e1 e2 (by decide) (by decide) (rfl) (by unfold qq_in; omega) ?_
    unfold inv
    simp (decide := true) only [qq_un', qq_un2, qq_us, qq_ueq, qq_R_u, qq_usf]
    refine ⟨h1, h2, h3, h4, h5, h6, h7, h8, h9, h10, ?_⟩
    · exact ⟨by first | trivial | omega, by unfold qq_in; omega⟩
theorem o_line {xs : List Int32} (hxs : xs.length ≤ 2048) (S : qq_S) (hI : inv S) : qq_op xs 29 86 118 [] S := by
  have hI0 := hI
  obtain ⟨h1, h2, h3, h4, h5, h6, h7, h8, h9, h10, h11⟩ := hI
  have g1 := h1
  have g5 := h5
  have g6 := h6
  have g7 := h7
  unfold i_net at g1
  unfold i_plan at g5
  unfold i_terms at g6
  unfold i_names at g7
  have e1 := f86 hxs 0 S ⟨by omega, by omega⟩
  by_cases c0 : S 4 1 < 6
  · simp only [c0, not_true_eq_false, not_false_eq_true, if_true, if_false, ite_true, ite_false, and_self, true_and, and_true] at e1
    have e2 := f118 hxs 0 (qq_u (qq_u S 4 1 (S 4 1 + 1)) 3 9 0) (by (try simp (decide := true) only [qq_un', qq_us]); exact ⟨by omega, by omega⟩)
    try simp (decide := true) only [qq_un'] at e2
    have q0 : S 115 2 = S 4 1 := by omega
    simp only [q0] at e2
    simp only [c0, not_true_eq_false, not_false_eq_true, if_true, if_false, ite_true, ite_false, and_self, true_and, and_true] at e2
    refine qq_op_of e1 e2 (by decide) (by decide) (rfl) (by unfold qq_in; omega) ?_
    unfold inv
    simp (decide := true) only [qq_un', qq_un2, qq_us, qq_ueq, qq_R_u, qq_usf]
    refine ⟨?_, ?_, ?_, h4, h5, h6, h7, h8, h9, h10, ?_⟩
    · grind [i_net]
    · exact il_line h2 (by omega) c0
    · exact ie_line h2 h3 (by omega) c0
    · exact ⟨by first | trivial | omega, by unfold qq_in; omega⟩
  · simp only [c0, not_true_eq_false, not_false_eq_true, if_true, if_false, ite_true, ite_false, and_self, true_and, and_true] at e1
    have e2 := f118 hxs 0 (qq_u S 3 9 (-5)) (by (try simp (decide := true) only [qq_un', qq_us]); exact ⟨by omega, by omega⟩)
    try simp (decide := true) only [qq_un'] at e2
    have q0 : S 115 2 = S 4 1 := by omega
    simp only [q0] at e2
    simp only [c0, not_true_eq_false, not_false_eq_true, if_true, if_false, ite_true, ite_false, and_self, true_and, and_true] at e2
    refine qq_op_of e1 e2 (by decide) (by decide) (rfl) (by unfold qq_in; omega) ?_
    unfold inv
    simp (decide := true) only [qq_un', qq_un2, qq_us, qq_ueq, qq_R_u, qq_usf]
    refine ⟨h1, h2, h3, h4, h5, h6, h7, h8, h9, h10, ?_⟩
    · exact ⟨by first | trivial | omega, by unfold qq_in; omega⟩
end
section
/-- how many of the first k are not z -/
def zz_cnt (f : Nat → Int) (z : Int) : Nat → Int
  | 0 => 0
  | k + 1 => zz_cnt f z k + (if f k = z then 0 else 1)
theorem zz_cnt_s (f : Nat → Int) (z i : Int) (h : 0 ≤ i) : zz_cnt f z (i + 1).toNat = zz_cnt f z i.toNat + (if f i.toNat = z then 0 else 1) := by
  rw [show (i + 1).toNat = i.toNat + 1 by omega]
  rfl
theorem zz_cnt_bd (f : Nat → Int) (z : Int) : ∀ k : Nat, 0 ≤ zz_cnt f z k ∧ zz_cnt f z k ≤ k
  | 0 => by simp [zz_cnt]
  | k + 1 => by
    have := zz_cnt_bd f z k
    unfold zz_cnt
    split <;> omega
theorem zz_cnt_eq (f g : Nat → Int) (z : Int) : ∀ (n k : Nat), n ≤ k → (∀ i, i < n → (f i = z ↔ g i = z)) → (∀ i, n ≤ i → i < k → f i = z) → zz_cnt f z k = zz_cnt g z n
  | n, 0, h, _, _ => by rw [show n = 0 by omega]; rfl
  | n, k + 1, h, h1, h2 => by
    by_cases e : n = k + 1
    · subst e
      have ih := zz_cnt_eq f g z k k (Nat.le_refl _) (fun i hi => h1 i (by omega)) (fun i hi hk => by omega)
      unfold zz_cnt
      rw [ih]
      have := h1 k (by omega)
      by_cases a : f k = z
      · rw [if_pos a, if_pos (this.mp a)]
      · rw [if_neg a, if_neg (fun z => a (this.mpr z))]
    · have ih := zz_cnt_eq f g z n k (by omega) h1 (fun i hi hk => h2 i hi (by omega))
      show zz_cnt f z k + (if f k = z then 0 else 1) = _
      rw [ih, if_pos (h2 k (by omega) (by omega))]
      exact Int.add_zero _
set_option maxRecDepth 20000 in
theorem f50 {xs : List Int32} (hxs : xs.length ≤ 2048) (d : Nat) (S : qq_S) (hp : ∀ i : Nat, i < 10 → qq_in (S 49 i)) : qq_E xs (d + 2) 50 [.inr (48, none)] S (some (zz_cnt (S 49) (-1) 10)) (S) := by
  have L : ∀ (k9 : Nat) (i c : Int), 0 ≤ i ∧ i + k9 = 10 → c = zz_cnt (S 49) (-1) i.toNat → qq_p xs (d + 1) (mm_mr mm_m50) (mm_mk mm_m50) (fun r S' => r = some (zz_cnt (S 49) (-1) 10) ∧ S' = S) 4 [some (.inr (48, none)), some (.inl c), some (.inl i)] [] (S) := by
    intro k9
    induction k9 with
    | zero =>
      intro i c hm hv
      refine qq_fsound hxs (sp_1_ok hxs (d + 0)) [4] 200 ?_
      repeat' first | apply And.intro | intro _
      all_goals (first | omega | (refine ih _ _ ?_ ?_ <;> first | omega | grind [zz_cnt_s, zz_b]) | (have hi10 : i = 10 := (by omega); grind [qq_in, zz_b]) | (have q9 := hp i.toNat (by omega); grind [qq_in, zz_b]))
    | succ k9 ih =>
      intro i c hm hv
      refine qq_fsound hxs (sp_1_ok hxs (d + 0)) [4] 200 ?_
      repeat' first | apply And.intro | intro _
      all_goals (first | omega | (refine ih _ _ ?_ ?_ <;> first | omega | grind [zz_cnt_s, zz_b]) | (have hi10 : i = 10 := (by omega); grind [qq_in, zz_b]) | (have q9 := hp i.toNat (by omega); grind [qq_in, zz_b]))
  have h : qq_p xs (d + 1) (mm_mr mm_m50) (mm_mk mm_m50) (fun r S' => r = some (zz_cnt (S 49) (-1) 10) ∧ S' = S) 0 (qq_ent mm_m50 [.inr (48, none)]) [] S := by
    refine qq_fsound hxs (sp_1_ok hxs (d + 0)) [4] 200 ?_
    repeat' first | apply And.intro | intro _
    all_goals (first | omega | (refine L 10 _ _ ?_ ?_ <;> first | omega | rfl) | grind [qq_in])
  obtain ⟨r, S', hE, e1, e2⟩ := qq_call_of (y := 50) rfl (Nat.le_of_ble_eq_true rfl) h
  rw [e1, e2] at hE
  exact hE
set_option maxRecDepth 20000 in
theorem f51 {xs : List Int32} (hxs : xs.length ≤ 2048) (d : Nat) (S : qq_S) (hp : ∀ i : Nat, i < 10 → qq_in (S 51 i)) : qq_E xs (d + 2) 51 [.inr (48, none)] S (some (zz_cnt (S 51) 0 10)) (S) := by
  have L : ∀ (k9 : Nat) (i c : Int), 0 ≤ i ∧ i + k9 = 10 → c = zz_cnt (S 51) 0 i.toNat → qq_p xs (d + 1) (mm_mr mm_m51) (mm_mk mm_m51) (fun r S' => r = some (zz_cnt (S 51) 0 10) ∧ S' = S) 4 [some (.inr (48, none)), some (.inl c), some (.inl i)] [] (S) := by
    intro k9
    induction k9 with
    | zero =>
      intro i c hm hv
      refine qq_fsound hxs (sp_1_ok hxs (d + 0)) [4] 200 ?_
      repeat' first | apply And.intro | intro _
      all_goals (first | omega | (refine ih _ _ ?_ ?_ <;> first | omega | grind [zz_cnt_s, zz_b]) | (have hi10 : i = 10 := (by omega); grind [qq_in, zz_b]) | (have q9 := hp i.toNat (by omega); grind [qq_in, zz_b]))
    | succ k9 ih =>
      intro i c hm hv
      refine qq_fsound hxs (sp_1_ok hxs (d + 0)) [4] 200 ?_
      repeat' first | apply And.intro | intro _
      all_goals (first | omega | (refine ih _ _ ?_ ?_ <;> first | omega | grind [zz_cnt_s, zz_b]) | (have hi10 : i = 10 := (by omega); grind [qq_in, zz_b]) | (have q9 := hp i.toNat (by omega); grind [qq_in, zz_b]))
  have h : qq_p xs (d + 1) (mm_mr mm_m51) (mm_mk mm_m51) (fun r S' => r = some (zz_cnt (S 51) 0 10) ∧ S' = S) 0 (qq_ent mm_m51 [.inr (48, none)]) [] S := by
    refine qq_fsound hxs (sp_1_ok hxs (d + 0)) [4] 200 ?_
    repeat' first | apply And.intro | intro _
    all_goals (first | omega | (refine L 10 _ _ ?_ ?_ <;> first | omega | rfl) | grind [qq_in])
  obtain ⟨r, S', hE, e1, e2⟩ := qq_call_of (y := 51) rfl (Nat.le_of_ble_eq_true rfl) h
  rw [e1, e2] at hE
  exact hE
/-- the places below i of x and y are -1, of h 0 -/
def zz_rs (S : qq_S) (x y h : Nat) (i : Int) : qq_S := fun a j => if (a = x ∨ a = y) ∧ (j : Int) < i then -1 else if a = h ∧ (j : Int) < i then 0 else S a j
theorem zz_rs0 (S : qq_S) (x y h : Nat) : zz_rs S x y h 0 = S := by
  funext a j
  unfold zz_rs
  rw [if_neg (by omega), if_neg (by omega)]
theorem zz_rs_s (S : qq_S) (x y h : Nat) (i : Int) (hi : 0 ≤ i) (h1 : x ≠ h) (h2 : y ≠ h) : qq_u (qq_u (qq_u (zz_rs S x y h i) x i.toNat (-1)) y i.toNat (-1)) h i.toNat 0 = zz_rs S x y h (i + 1) := by
  funext a j
  unfold qq_u zz_rs
  have e : (j = i.toNat) ↔ (j : Int) = i := by omega
  have e2 : ((j : Int) < i + 1) ↔ ((j : Int) < i ∨ (j : Int) = i) := by omega
  simp only [e, e2]
  grind
theorem zz_rs_m (S : qq_S) (x h : Nat) (i : Int) (hi : 0 ≤ i) (h1 : x ≠ h) : qq_u (qq_u (zz_rs S x x h i) x i.toNat (-1)) h i.toNat 0 = zz_rs S x x h (i + 1) := by
  rw [← zz_rs_s S x x h i hi h1 h1]
  congr 1
  funext a j
  unfold qq_u
  grind
set_option maxRecDepth 20000 in
theorem f44_48 {xs : List Int32} (hxs : xs.length ≤ 2048) (d : Nat) (S : qq_S) (w : Int) (h : Int) (hp : True) : qq_E xs (d + 1) 44 [.inr (48, none), .inl w, .inl h] S (none) (zz_rs (qq_u (qq_u S 48 0 w) 48 1 h) 49 50 51 10) := by
  have L : ∀ (k9 : Nat) (i : Int) (T : qq_S), 0 ≤ i ∧ i + k9 = 10 → T = zz_rs (qq_u (qq_u S 48 0 w) 48 1 h) 49 50 51 i → qq_p xs (d + 0) (mm_mr mm_m44) (mm_mk mm_m44) (fun r S' => r = none ∧ S' = zz_rs (qq_u (qq_u S 48 0 w) 48 1 h) 49 50 51 10) 12 [some (.inr (48, none)), some (.inl w), some (.inl h), some (.inl i)] [] (T) := by
    intro k9
    induction k9 with
    | zero =>
      intro i T hm hv
      refine qq_fsound hxs (sp_0_ok hxs (d + 0)) [12] 200 ?_
      repeat' first | apply And.intro | intro _
      all_goals (first | omega | (refine ih _ _ ?_ ?_ <;> first | omega | (rw [hv]; exact zz_rs_s _ _ _ _ _ (by omega) (by decide) (by decide))) | (have hi10 : i = 10 := (by omega); rw [hv, hi10]) | grind [qq_in])
    | succ k9 ih =>
      intro i T hm hv
      refine qq_fsound hxs (sp_0_ok hxs (d + 0)) [12] 200 ?_
      repeat' first | apply And.intro | intro _
      all_goals (first | omega | (refine ih _ _ ?_ ?_ <;> first | omega | (rw [hv]; exact zz_rs_s _ _ _ _ _ (by omega) (by decide) (by decide))) | (have hi10 : i = 10 := (by omega); rw [hv, hi10]) | grind [qq_in])
  have h : qq_p xs (d + 0) (mm_mr mm_m44) (mm_mk mm_m44) (fun r S' => r = none ∧ S' = zz_rs (qq_u (qq_u S 48 0 w) 48 1 h) 49 50 51 10) 0 (qq_ent mm_m44 [.inr (48, none), .inl w, .inl h]) [] S := by
    refine qq_fsound hxs (sp_0_ok hxs (d + 0)) [12] 200 ?_
    repeat' first | apply And.intro | intro _
    all_goals (first | omega | (refine L 10 _ _ ?_ ?_ <;> first | omega | exact (zz_rs0 _ _ _ _).symm) | grind [qq_in])
  obtain ⟨r, S', hE, e1, e2⟩ := qq_call_of (y := 44) rfl (Nat.le_of_ble_eq_true rfl) h
  rw [e1, e2] at hE
  exact hE
set_option maxRecDepth 20000 in
theorem f44_56 {xs : List Int32} (hxs : xs.length ≤ 2048) (d : Nat) (S : qq_S) (w : Int) (h : Int) (hp : True) : qq_E xs (d + 1) 44 [.inr (56, none), .inl w, .inl h] S (none) (zz_rs (qq_u (qq_u S 56 0 w) 56 1 h) 57 58 59 10) := by
  have L : ∀ (k9 : Nat) (i : Int) (T : qq_S), 0 ≤ i ∧ i + k9 = 10 → T = zz_rs (qq_u (qq_u S 56 0 w) 56 1 h) 57 58 59 i → qq_p xs (d + 0) (mm_mr mm_m44) (mm_mk mm_m44) (fun r S' => r = none ∧ S' = zz_rs (qq_u (qq_u S 56 0 w) 56 1 h) 57 58 59 10) 12 [some (.inr (56, none)), some (.inl w), some (.inl h), some (.inl i)] [] (T) := by
    intro k9
    induction k9 with
    | zero =>
      intro i T hm hv
      refine qq_fsound hxs (sp_0_ok hxs (d + 0)) [12] 200 ?_
      repeat' first | apply And.intro | intro _
      all_goals (first | omega | (refine ih _ _ ?_ ?_ <;> first | omega | (rw [hv]; exact zz_rs_s _ _ _ _ _ (by omega) (by decide) (by decide))) | (have hi10 : i = 10 := (by omega); rw [hv, hi10]) | grind [qq_in])
    | succ k9 ih =>
      intro i T hm hv
      refine qq_fsound hxs (sp_0_ok hxs (d + 0)) [12] 200 ?_
      repeat' first | apply And.intro | intro _
      all_goals (first | omega | (refine ih _ _ ?_ ?_ <;> first | omega | (rw [hv]; exact zz_rs_s _ _ _ _ _ (by omega) (by decide) (by decide))) | (have hi10 : i = 10 := (by omega); rw [hv, hi10]) | grind [qq_in])
  have h : qq_p xs (d + 0) (mm_mr mm_m44) (mm_mk mm_m44) (fun r S' => r = none ∧ S' = zz_rs (qq_u (qq_u S 56 0 w) 56 1 h) 57 58 59 10) 0 (qq_ent mm_m44 [.inr (56, none), .inl w, .inl h]) [] S := by
    refine qq_fsound hxs (sp_0_ok hxs (d + 0)) [12] 200 ?_
    repeat' first | apply And.intro | intro _
    all_goals (first | omega | (refine L 10 _ _ ?_ ?_ <;> first | omega | exact (zz_rs0 _ _ _ _).symm) | grind [qq_in])
  obtain ⟨r, S', hE, e1, e2⟩ := qq_call_of (y := 44) rfl (Nat.le_of_ble_eq_true rfl) h
  rw [e1, e2] at hE
  exact hE
def sp_5 : qq_P := fun y as S => match y, as with
  | 110, [.inl a, .inl lo, .inl hi] => some (qq_in a ∧ qq_in lo ∧ qq_in hi, some (zz_b (lo ≤ a ∧ a ≤ hi)), S)
  | 114, [.inl a, .inl lo, .inl hi] => some (qq_in a ∧ qq_in lo ∧ qq_in hi, some (zz_b (lo ≤ a ∧ a ≤ hi)), S)
  | 108, [.inr (3, none), .inl a] => some (True, some (a), qq_u S 3 9 a)
  | 109, [.inr (3, none), .inl a] => some (True, some (a), qq_u S 3 9 0)
  | 115, [.inr (115, none), .inl a] => some (qq_in a, some (a), qq_u S 115 0 (if a < 0 then a else 0))
  | 31, [.inr (4, none), .inl a] => some (qq_in a ∧ qq_in (S 4 0), some (zz_b (0 ≤ a ∧ a < S 4 0)), S)
  | 32, [.inr (4, none), .inl a] => some (qq_in a ∧ qq_in (S 4 1), some (zz_b (0 ≤ a ∧ a < S 4 1)), S)
  | 107, [.inr (3, none)] => some (True, some (S 3 9), S)
  | 177, [.inr (115, none)] => some (True, some (S 115 0), S)
  | 45, [.inr (48, none)] => some (True, some (S 48 0 * S 48 1), S)
  | 46, [.inr (48, none), .inl a] => some (0 ≤ a ∧ a < 10 ∧ qq_in (S 49 a.toNat), some (zz_b (¬ S 49 a.toNat = -1)), S)
  | 52, [.inr (48, none), .inl a, .inl b] => some (0 ≤ a ∧ a < 10 ∧ 0 ≤ b ∧ b < 10 ∧ (-8 ≤ S 49 a.toNat ∧ S 49 a.toNat ≤ 8 ∧ -8 ≤ S 49 b.toNat ∧ S 49 b.toNat ≤ 8 ∧ -8 ≤ S 50 a.toNat ∧ S 50 a.toNat ≤ 8 ∧ -8 ≤ S 50 b.toNat ∧ S 50 b.toNat ≤ 8), some (zz_dir (S 49 b.toNat - S 49 a.toNat) (S 50 b.toNat - S 50 a.toNat)), S)
  | 45, [.inr (56, none)] => some (True, some (S 56 0 * S 56 1), S)
  | 46, [.inr (56, none), .inl a] => some (0 ≤ a ∧ a < 10 ∧ qq_in (S 57 a.toNat), some (zz_b (¬ S 57 a.toNat = -1)), S)
  | 52, [.inr (56, none), .inl a, .inl b] => some (0 ≤ a ∧ a < 10 ∧ 0 ≤ b ∧ b < 10 ∧ (-8 ≤ S 57 a.toNat ∧ S 57 a.toNat ≤ 8 ∧ -8 ≤ S 57 b.toNat ∧ S 57 b.toNat ≤ 8 ∧ -8 ≤ S 58 a.toNat ∧ S 58 a.toNat ≤ 8 ∧ -8 ≤ S 58 b.toNat ∧ S 58 b.toNat ≤ 8), some (zz_dir (S 57 b.toNat - S 57 a.toNat) (S 58 b.toNat - S 58 a.toNat)), S)
  | 64, [.inl a, .inl b] => some (-100 ≤ a ∧ a ≤ 100 ∧ -100 ≤ b ∧ b ≤ 100, some (if 4 < qq_and (a - b) 7 then 8 - qq_and (a - b) 7 else qq_and (a - b) 7), S)
  | 111, [.inl a] => some (qq_in a, some (zz_b (0 ≤ a ∧ a ≤ 100)), S)
  | 116, [.inr (115, none), .inl a] => some (qq_in a ∧ 0 ≤ S 115 1 ∧ S 115 1 ≤ 10, some (zz_b (0 ≤ a ∧ a < S 115 1)), S)
  | 92, [.inr (3, none), .inl a] => some (qq_in a, some (if 1 ≤ a ∧ a ≤ 4 then S 52 3 else -1), if 1 ≤ a ∧ a ≤ 4 then qq_u (qq_u S 52 3 a) 3 9 0 else qq_u S 3 9 (-1))
  | 132, [.inr (115, none), .inl a] => some (qq_in a ∧ 0 ≤ S 115 14 ∧ S 115 14 ≤ 4, some (if 1 ≤ a ∧ a ≤ 4 then S 115 14 else -1), if 1 ≤ a ∧ a ≤ 4 then qq_u (qq_u S 115 14 a) 115 0 0 else qq_u S 115 0 (-1))
  | 93, [.inr (3, none), .inl a, .inl b, .inl c] => some (qq_in a ∧ qq_in b ∧ qq_in c, some (if 0 ≤ a ∧ a ≤ 100 ∧ 0 ≤ b ∧ b ≤ 100 ∧ 0 ≤ c ∧ c ≤ 100 then 0 else -1), if 0 ≤ a ∧ a ≤ 100 ∧ 0 ≤ b ∧ b ≤ 100 ∧ 0 ≤ c ∧ c ≤ 100 then qq_u (qq_u (qq_u (qq_u S 52 0 a) 52 1 b) 52 2 c) 3 9 0 else qq_u S 3 9 (-1))
  | 133, [.inr (115, none), .inl a, .inl b, .inl c] => some (qq_in a ∧ qq_in b ∧ qq_in c, some (if 0 ≤ a ∧ a ≤ 100 ∧ 0 ≤ b ∧ b ≤ 100 ∧ 0 ≤ c ∧ c ≤ 100 then 0 else -1), if 0 ≤ a ∧ a ≤ 100 ∧ 0 ≤ b ∧ b ≤ 100 ∧ 0 ≤ c ∧ c ≤ 100 then qq_u (qq_u (qq_u (qq_u S 115 15 a) 115 16 b) 115 17 c) 115 0 0 else qq_u S 115 0 (-1))
  | 47, [.inr (48, none), .inl a] => some (0 ≤ a ∧ a < 10 ∧ qq_in (S 49 a.toNat), some (if S 49 a.toNat = -1 then -1 else S 50 a.toNat * S 48 0 + S 49 a.toNat), S)
  | 48, [.inr (48, none), .inl a, .inl p] => some (0 ≤ a ∧ a < 10 ∧ qq_in p ∧ 0 ≤ S 48 0 ∧ S 48 0 ≤ 8, none, if p < 0 ∨ S 48 0 < 1 then qq_u (qq_u S 49 a.toNat (-1)) 50 a.toNat (-1) else qq_u (qq_u S 49 a.toNat (p % S 48 0)) 50 a.toNat (p / S 48 0))
  | 47, [.inr (56, none), .inl a] => some (0 ≤ a ∧ a < 10 ∧ qq_in (S 57 a.toNat), some (if S 57 a.toNat = -1 then -1 else S 58 a.toNat * S 56 0 + S 57 a.toNat), S)
  | 48, [.inr (56, none), .inl a, .inl p] => some (0 ≤ a ∧ a < 10 ∧ qq_in p ∧ 0 ≤ S 56 0 ∧ S 56 0 ≤ 8, none, if p < 0 ∨ S 56 0 < 1 then qq_u (qq_u S 57 a.toNat (-1)) 58 a.toNat (-1) else qq_u (qq_u S 57 a.toNat (p % S 56 0)) 58 a.toNat (p / S 56 0))
  | 35, [.inr (4, none)] => some (True, some (S 4 1), qq_u S 4 1 (S 4 1 + 1))
  | 50, [.inr (48, none)] => some (∀ i : Nat, i < 10 → qq_in (S 49 i), some (zz_cnt (S 49) (-1) 10), S)
  | 51, [.inr (48, none)] => some (∀ i : Nat, i < 10 → qq_in (S 51 i), some (zz_cnt (S 51) 0 10), S)
  | 44, [.inr (48, none), .inl w, .inl h] => some (True, none, zz_rs (qq_u (qq_u S 48 0 w) 48 1 h) 49 50 51 10)
  | 44, [.inr (56, none), .inl w, .inl h] => some (True, none, zz_rs (qq_u (qq_u S 56 0 w) 56 1 h) 57 58 59 10)
  | _, _ => none
theorem sp_5_ok {xs : List Int32} (hxs : xs.length ≤ 2048) (d : Nat) : qq_ok xs (d + 3) sp_5 := by
  intro y as S pre r S2 h hp
  unfold sp_5 at h
  split at h
  · cases h; exact f110 hxs (d + 2) S _ _ _ hp
  · cases h; exact f114 hxs (d + 2) S _ _ _ hp
  · cases h; exact f108 hxs (d + 2) S _ hp
  · cases h; exact f109 hxs (d + 2) S _ hp
  · cases h; exact f115 hxs (d + 2) S _ hp
  · cases h; exact f31 hxs (d + 2) S _ hp
  · cases h; exact f32 hxs (d + 2) S _ hp
  · cases h; exact f107 hxs (d + 2) S hp
  · cases h; exact f177 hxs (d + 2) S hp
  · cases h; exact f45_48 hxs (d + 2) S hp
  · cases h; exact f46_48 hxs (d + 2) S _ hp
  · cases h; exact f52_48 hxs (d + 2) S _ _ hp
  · cases h; exact f45_56 hxs (d + 2) S hp
  · cases h; exact f46_56 hxs (d + 2) S _ hp
  · cases h; exact f52_56 hxs (d + 2) S _ _ hp
  · cases h; exact f64 hxs (d + 2) S _ _ hp
  · cases h; exact f111 hxs (d + 1) S _ hp
  · cases h; exact f116 hxs (d + 1) S _ hp
  · cases h; exact f92 hxs (d + 1) S _ hp
  · cases h; exact f132 hxs (d + 1) S _ hp
  · cases h; exact f93 hxs (d + 0) S _ _ _ hp
  · cases h; exact f133 hxs (d + 1) S _ _ _ hp
  · cases h; exact f47_48 hxs (d + 1) S _ hp
  · cases h; exact f48_48 hxs (d + 2) S _ _ hp
  · cases h; exact f47_56 hxs (d + 1) S _ hp
  · cases h; exact f48_56 hxs (d + 2) S _ _ hp
  · cases h; exact f35 hxs (d + 2) S hp
  · cases h; exact f50 hxs (d + 1) S hp
  · cases h; exact f51 hxs (d + 1) S hp
  · cases h; exact f44_48 hxs (d + 2) S _ _ hp
  · cases h; exact f44_56 hxs (d + 2) S _ _ hp
  · cases h
set_option maxRecDepth 20000 in
theorem f91 {xs : List Int32} (hxs : xs.length ≤ 2048) (d : Nat) (S : qq_S) (a : Int) (b : Int) (hp : qq_in a ∧ qq_in b) : qq_E xs (d + 4) 91 [.inr (3, none), .inl a, .inl b] S (some (if (2 ≤ a ∧ a ≤ 8 ∧ 2 ≤ b ∧ b ≤ 8) then 0 else -1)) (if (2 ≤ a ∧ a ≤ 8 ∧ 2 ≤ b ∧ b ≤ 8) then qq_u (zz_rs (qq_u (qq_u S 48 0 a) 48 1 b) 49 50 51 10) 3 9 0 else qq_u S 3 9 (-1)) := by
  have h : qq_p xs (d + 3) (mm_mr mm_m91) (mm_mk mm_m91) (fun r S' => r = some (if (2 ≤ a ∧ a ≤ 8 ∧ 2 ≤ b ∧ b ≤ 8) then 0 else -1) ∧ S' = if (2 ≤ a ∧ a ≤ 8 ∧ 2 ≤ b ∧ b ≤ 8) then qq_u (zz_rs (qq_u (qq_u S 48 0 a) 48 1 b) 49 50 51 10) 3 9 0 else qq_u S 3 9 (-1)) 0 (qq_ent mm_m91 [.inr (3, none), .inl a, .inl b]) [] S := by
    refine qq_fsound hxs (sp_5_ok hxs (d + 0)) [] 200 ?_
    repeat' first | apply And.intro | intro _
    all_goals (first | rfl | omega | grind [qq_in, zz_b])
  obtain ⟨r, S', hE, e1, e2⟩ := qq_call_of (y := 91) rfl (Nat.le_of_ble_eq_true rfl) h
  rw [e1, e2] at hE
  exact hE
set_option maxRecDepth 20000 in
theorem f131 {xs : List Int32} (hxs : xs.length ≤ 2048) (d : Nat) (S : qq_S) (a : Int) (b : Int) (hp : qq_in a ∧ qq_in b) : qq_E xs (d + 4) 131 [.inr (115, none), .inl a, .inl b] S (some (if (2 ≤ a ∧ a ≤ 8 ∧ 2 ≤ b ∧ b ≤ 8) then 0 else -1)) (if (2 ≤ a ∧ a ≤ 8 ∧ 2 ≤ b ∧ b ≤ 8) then qq_u (zz_rs (qq_u (qq_u S 115 12 a) 115 13 b) 123 123 124 10) 115 0 0 else qq_u S 115 0 (-1)) := by
  have L : ∀ (k9 : Nat) (i : Int) (T : qq_S), 0 ≤ i ∧ i + k9 = 10 → (T = zz_rs (qq_u (qq_u S 115 12 a) 115 13 b) 123 123 124 i ∧ (2 ≤ a ∧ a ≤ 8 ∧ 2 ≤ b ∧ b ≤ 8)) → qq_p xs (d + 3) (mm_mr mm_m131) (mm_mk mm_m131) (fun r S' => r = some (if (2 ≤ a ∧ a ≤ 8 ∧ 2 ≤ b ∧ b ≤ 8) then 0 else -1) ∧ S' = if (2 ≤ a ∧ a ≤ 8 ∧ 2 ≤ b ∧ b ≤ 8) then qq_u (zz_rs (qq_u (qq_u S 115 12 a) 115 13 b) 123 123 124 10) 115 0 0 else qq_u S 115 0 (-1)) 38 [some (.inr (115, none)), some (.inl a), some (.inl b), some (.inl i)] [] (T) := by
    intro k9
    induction k9 with
    | zero =>
      intro i T hm hv
      refine qq_fsound hxs (sp_5_ok hxs (d + 0)) [38] 200 ?_
      repeat' first | apply And.intro | intro _
      all_goals (first | omega | (refine ih _ _ ?_ ?_ <;> first | omega | (rw [hv.1]; exact ⟨zz_rs_m _ _ _ _ (by omega) (by decide), hv.2⟩)) | (have hi10 : i = 10 := (by omega); rw [if_pos hv.2]; rw [hv.1, hi10]; try rfl) | grind [qq_in])
    | succ k9 ih =>
      intro i T hm hv
      refine qq_fsound hxs (sp_5_ok hxs (d + 0)) [38] 200 ?_
      repeat' first | apply And.intro | intro _
      all_goals (first | omega | (refine ih _ _ ?_ ?_ <;> first | omega | (rw [hv.1]; exact ⟨zz_rs_m _ _ _ _ (by omega) (by decide), hv.2⟩)) | (have hi10 : i = 10 := (by omega); rw [if_pos hv.2]; rw [hv.1, hi10]; try rfl) | grind [qq_in])
  have h : qq_p xs (d + 3) (mm_mr mm_m131) (mm_mk mm_m131) (fun r S' => r = some (if (2 ≤ a ∧ a ≤ 8 ∧ 2 ≤ b ∧ b ≤ 8) then 0 else -1) ∧ S' = if (2 ≤ a ∧ a ≤ 8 ∧ 2 ≤ b ∧ b ≤ 8) then qq_u (zz_rs (qq_u (qq_u S 115 12 a) 115 13 b) 123 123 124 10) 115 0 0 else qq_u S 115 0 (-1)) 0 (qq_ent mm_m131 [.inr (115, none), .inl a, .inl b]) [] S := by
    refine qq_fsound hxs (sp_5_ok hxs (d + 0)) [38] 200 ?_
    repeat' first | apply And.intro | intro _
    all_goals (first | omega | (refine L 10 _ _ ?_ ?_ <;> first | omega | exact ⟨(zz_rs0 _ _ _ _).symm, by grind [zz_b]⟩) | grind [qq_in, zz_b])
  obtain ⟨r, S', hE, e1, e2⟩ := qq_call_of (y := 131) rfl (Nat.le_of_ble_eq_true rfl) h
  rw [e1, e2] at hE
  exact hE
end
section
/-- one of the first k is at a, b -/
def zz_has (X Y : Nat → Int) (a b : Int) : Nat → Bool
  | 0 => false
  | k + 1 => zz_has X Y a b k || (decide (X k = a) && decide (Y k = b))
theorem zz_has_s (X Y : Nat → Int) (a b i : Int) (h : 0 ≤ i) : zz_has X Y a b (i + 1).toNat = (zz_has X Y a b i.toNat || (decide (X i.toNat = a) && decide (Y i.toNat = b))) := by
  rw [show (i + 1).toNat = i.toNat + 1 by omega]
  rfl
theorem zz_has_iff (X Y : Nat → Int) (a b : Int) : ∀ k : Nat, zz_has X Y a b k = true ↔ ∃ i, i < k ∧ X i = a ∧ Y i = b
  | 0 => by simp [zz_has]
  | k + 1 => by
    rw [zz_has, Bool.or_eq_true, zz_has_iff X Y a b k]
    constructor
    · rintro (⟨i, h1, h2⟩ | h)
      · exact ⟨i, by omega, h2⟩
      · simp at h
        exact ⟨k, by omega, h⟩
    · rintro ⟨i, h1, h2⟩
      by_cases e : i = k
      · subst e
        exact Or.inr (by simp [h2.1, h2.2])
      · exact Or.inl ⟨i, by omega, h2⟩
theorem zz_has_at (X Y : Nat → Int) (a b i n : Int) (h : 0 ≤ i ∧ i < n) (hx : X i.toNat = a) (hy : Y i.toNat = b) : zz_has X Y a b n.toNat = true := (zz_has_iff X Y a b n.toNat).mpr ⟨i.toNat, by omega, hx, hy⟩
theorem zz_has_eq (X Y X' Y' : Nat → Int) (a b : Int) (k : Nat) (h : ∀ i, i < k → X' i = X i ∧ Y' i = Y i) : zz_has X' Y' a b k = zz_has X Y a b k := by
  have : zz_has X' Y' a b k = true ↔ zz_has X Y a b k = true := by
    rw [zz_has_iff, zz_has_iff]
    constructor
    · rintro ⟨i, h1, h2, h3⟩
      exact ⟨i, h1, by rw [← (h i h1).1]; exact h2, by rw [← (h i h1).2]; exact h3⟩
    · rintro ⟨i, h1, h2, h3⟩
      exact ⟨i, h1, by rw [(h i h1).1]; exact h2, by rw [(h i h1).2]; exact h3⟩
  cases h1 : zz_has X' Y' a b k <;> cases h2 : zz_has X Y a b k <;> simp_all
set_option maxRecDepth 20000 in
theorem f33 {xs : List Int32} (hxs : xs.length ≤ 2048) (d : Nat) (S : qq_S) (a : Int) (b : Int) (hp : qq_in a ∧ qq_in b ∧ (0 ≤ S 4 0 ∧ S 4 0 ≤ 10) ∧ (∀ i : Nat, (i : Int) < S 4 0 → qq_in (S 5 i) ∧ qq_in (S 6 i))) : qq_E xs (d + 1) 33 [.inr (4, none), .inl a, .inl b] S (some (zz_b (zz_has (S 5) (S 6) a b (S 4 0).toNat = true))) (S) := by
  have L : ∀ (k9 : Nat) (i : Int), 0 ≤ i ∧ i + k9 = S 4 0 → zz_has (S 5) (S 6) a b i.toNat = false → qq_p xs (d + 0) (mm_mr mm_m33) (mm_mk mm_m33) (fun r S' => r = some (zz_b (zz_has (S 5) (S 6) a b (S 4 0).toNat = true)) ∧ S' = S) 2 [some (.inr (4, none)), some (.inl a), some (.inl b), some (.inl i)] [] (S) := by
    intro k9
    induction k9 with
    | zero =>
      intro i hm hv
      refine qq_fsound hxs (sp_0_ok hxs (d + 0)) [2] 200 ?_
      repeat' first | apply And.intro | intro _
      all_goals (first | omega | (have q9 := hp.2.2.2 i.toNat (by omega); grind [qq_in]) | (refine ih _ ?_ ?_ <;> first | omega | grind [zz_has_s]) | (have hi9 : i = S 4 0 := (by omega); grind [zz_b]) | (have q9 := zz_has_at (S 5) (S 6) a b i (S 4 0) (by omega); grind [zz_b]))
    | succ k9 ih =>
      intro i hm hv
      refine qq_fsound hxs (sp_0_ok hxs (d + 0)) [2] 200 ?_
      repeat' first | apply And.intro | intro _
      all_goals (first | omega | (have q9 := hp.2.2.2 i.toNat (by omega); grind [qq_in]) | (refine ih _ ?_ ?_ <;> first | omega | grind [zz_has_s]) | (have hi9 : i = S 4 0 := (by omega); grind [zz_b]) | (have q9 := zz_has_at (S 5) (S 6) a b i (S 4 0) (by omega); grind [zz_b]))
  have h : qq_p xs (d + 0) (mm_mr mm_m33) (mm_mk mm_m33) (fun r S' => r = some (zz_b (zz_has (S 5) (S 6) a b (S 4 0).toNat = true)) ∧ S' = S) 0 (qq_ent mm_m33 [.inr (4, none), .inl a, .inl b]) [] S := by
    refine qq_fsound hxs (sp_0_ok hxs (d + 0)) [2] 200 ?_
    repeat' first | apply And.intro | intro _
    all_goals (first | omega | (refine L (S 4 0).toNat _ ?_ ?_ <;> first | omega | rfl) | grind [qq_in])
  obtain ⟨r, S', hE, e1, e2⟩ := qq_call_of (y := 33) rfl (Nat.le_of_ble_eq_true rfl) h
  rw [e1, e2] at hE
  exact hE
set_option maxRecDepth 20000 in
theorem f34 {xs : List Int32} (hxs : xs.length ≤ 2048) (d : Nat) (S : qq_S) (a : Int) (b : Int) (hp : 0 ≤ S 4 0 ∧ S 4 0 < 10) : qq_E xs (d + 1) 34 [.inr (4, none), .inl a, .inl b] S (some (S 4 0)) (qq_u (qq_u (qq_u S 5 (S 4 0).toNat a) 6 (S 4 0).toNat b) 4 0 (S 4 0 + 1)) := by
  have h : qq_p xs (d + 0) (mm_mr mm_m34) (mm_mk mm_m34) (fun r S' => r = some (S 4 0) ∧ S' = qq_u (qq_u (qq_u S 5 (S 4 0).toNat a) 6 (S 4 0).toNat b) 4 0 (S 4 0 + 1)) 0 (qq_ent mm_m34 [.inr (4, none), .inl a, .inl b]) [] S := by
    refine qq_fsound hxs (sp_0_ok hxs (d + 0)) [] 200 ?_
    repeat' first | apply And.intro | intro _
    all_goals (first | rfl | omega | grind [qq_in, qq_u])
  obtain ⟨r, S', hE, e1, e2⟩ := qq_call_of (y := 34) rfl (Nat.le_of_ble_eq_true rfl) h
  rw [e1, e2] at hE
  exact hE
def sp_6 : qq_P := fun y as S => match y, as with
  | 110, [.inl a, .inl lo, .inl hi] => some (qq_in a ∧ qq_in lo ∧ qq_in hi, some (zz_b (lo ≤ a ∧ a ≤ hi)), S)
  | 114, [.inl a, .inl lo, .inl hi] => some (qq_in a ∧ qq_in lo ∧ qq_in hi, some (zz_b (lo ≤ a ∧ a ≤ hi)), S)
  | 108, [.inr (3, none), .inl a] => some (True, some (a), qq_u S 3 9 a)
  | 109, [.inr (3, none), .inl a] => some (True, some (a), qq_u S 3 9 0)
  | 115, [.inr (115, none), .inl a] => some (qq_in a, some (a), qq_u S 115 0 (if a < 0 then a else 0))
  | 31, [.inr (4, none), .inl a] => some (qq_in a ∧ qq_in (S 4 0), some (zz_b (0 ≤ a ∧ a < S 4 0)), S)
  | 32, [.inr (4, none), .inl a] => some (qq_in a ∧ qq_in (S 4 1), some (zz_b (0 ≤ a ∧ a < S 4 1)), S)
  | 107, [.inr (3, none)] => some (True, some (S 3 9), S)
  | 177, [.inr (115, none)] => some (True, some (S 115 0), S)
  | 45, [.inr (48, none)] => some (True, some (S 48 0 * S 48 1), S)
  | 46, [.inr (48, none), .inl a] => some (0 ≤ a ∧ a < 10 ∧ qq_in (S 49 a.toNat), some (zz_b (¬ S 49 a.toNat = -1)), S)
  | 52, [.inr (48, none), .inl a, .inl b] => some (0 ≤ a ∧ a < 10 ∧ 0 ≤ b ∧ b < 10 ∧ (-8 ≤ S 49 a.toNat ∧ S 49 a.toNat ≤ 8 ∧ -8 ≤ S 49 b.toNat ∧ S 49 b.toNat ≤ 8 ∧ -8 ≤ S 50 a.toNat ∧ S 50 a.toNat ≤ 8 ∧ -8 ≤ S 50 b.toNat ∧ S 50 b.toNat ≤ 8), some (zz_dir (S 49 b.toNat - S 49 a.toNat) (S 50 b.toNat - S 50 a.toNat)), S)
  | 45, [.inr (56, none)] => some (True, some (S 56 0 * S 56 1), S)
  | 46, [.inr (56, none), .inl a] => some (0 ≤ a ∧ a < 10 ∧ qq_in (S 57 a.toNat), some (zz_b (¬ S 57 a.toNat = -1)), S)
  | 52, [.inr (56, none), .inl a, .inl b] => some (0 ≤ a ∧ a < 10 ∧ 0 ≤ b ∧ b < 10 ∧ (-8 ≤ S 57 a.toNat ∧ S 57 a.toNat ≤ 8 ∧ -8 ≤ S 57 b.toNat ∧ S 57 b.toNat ≤ 8 ∧ -8 ≤ S 58 a.toNat ∧ S 58 a.toNat ≤ 8 ∧ -8 ≤ S 58 b.toNat ∧ S 58 b.toNat ≤ 8), some (zz_dir (S 57 b.toNat - S 57 a.toNat) (S 58 b.toNat - S 58 a.toNat)), S)
  | 64, [.inl a, .inl b] => some (-100 ≤ a ∧ a ≤ 100 ∧ -100 ≤ b ∧ b ≤ 100, some (if 4 < qq_and (a - b) 7 then 8 - qq_and (a - b) 7 else qq_and (a - b) 7), S)
  | 111, [.inl a] => some (qq_in a, some (zz_b (0 ≤ a ∧ a ≤ 100)), S)
  | 116, [.inr (115, none), .inl a] => some (qq_in a ∧ 0 ≤ S 115 1 ∧ S 115 1 ≤ 10, some (zz_b (0 ≤ a ∧ a < S 115 1)), S)
  | 92, [.inr (3, none), .inl a] => some (qq_in a, some (if 1 ≤ a ∧ a ≤ 4 then S 52 3 else -1), if 1 ≤ a ∧ a ≤ 4 then qq_u (qq_u S 52 3 a) 3 9 0 else qq_u S 3 9 (-1))
  | 132, [.inr (115, none), .inl a] => some (qq_in a ∧ 0 ≤ S 115 14 ∧ S 115 14 ≤ 4, some (if 1 ≤ a ∧ a ≤ 4 then S 115 14 else -1), if 1 ≤ a ∧ a ≤ 4 then qq_u (qq_u S 115 14 a) 115 0 0 else qq_u S 115 0 (-1))
  | 93, [.inr (3, none), .inl a, .inl b, .inl c] => some (qq_in a ∧ qq_in b ∧ qq_in c, some (if 0 ≤ a ∧ a ≤ 100 ∧ 0 ≤ b ∧ b ≤ 100 ∧ 0 ≤ c ∧ c ≤ 100 then 0 else -1), if 0 ≤ a ∧ a ≤ 100 ∧ 0 ≤ b ∧ b ≤ 100 ∧ 0 ≤ c ∧ c ≤ 100 then qq_u (qq_u (qq_u (qq_u S 52 0 a) 52 1 b) 52 2 c) 3 9 0 else qq_u S 3 9 (-1))
  | 133, [.inr (115, none), .inl a, .inl b, .inl c] => some (qq_in a ∧ qq_in b ∧ qq_in c, some (if 0 ≤ a ∧ a ≤ 100 ∧ 0 ≤ b ∧ b ≤ 100 ∧ 0 ≤ c ∧ c ≤ 100 then 0 else -1), if 0 ≤ a ∧ a ≤ 100 ∧ 0 ≤ b ∧ b ≤ 100 ∧ 0 ≤ c ∧ c ≤ 100 then qq_u (qq_u (qq_u (qq_u S 115 15 a) 115 16 b) 115 17 c) 115 0 0 else qq_u S 115 0 (-1))
  | 47, [.inr (48, none), .inl a] => some (0 ≤ a ∧ a < 10 ∧ qq_in (S 49 a.toNat), some (if S 49 a.toNat = -1 then -1 else S 50 a.toNat * S 48 0 + S 49 a.toNat), S)
  | 48, [.inr (48, none), .inl a, .inl p] => some (0 ≤ a ∧ a < 10 ∧ qq_in p ∧ 0 ≤ S 48 0 ∧ S 48 0 ≤ 8, none, if p < 0 ∨ S 48 0 < 1 then qq_u (qq_u S 49 a.toNat (-1)) 50 a.toNat (-1) else qq_u (qq_u S 49 a.toNat (p % S 48 0)) 50 a.toNat (p / S 48 0))
  | 47, [.inr (56, none), .inl a] => some (0 ≤ a ∧ a < 10 ∧ qq_in (S 57 a.toNat), some (if S 57 a.toNat = -1 then -1 else S 58 a.toNat * S 56 0 + S 57 a.toNat), S)
  | 48, [.inr (56, none), .inl a, .inl p] => some (0 ≤ a ∧ a < 10 ∧ qq_in p ∧ 0 ≤ S 56 0 ∧ S 56 0 ≤ 8, none, if p < 0 ∨ S 56 0 < 1 then qq_u (qq_u S 57 a.toNat (-1)) 58 a.toNat (-1) else qq_u (qq_u S 57 a.toNat (p % S 56 0)) 58 a.toNat (p / S 56 0))
  | 35, [.inr (4, none)] => some (True, some (S 4 1), qq_u S 4 1 (S 4 1 + 1))
  | 50, [.inr (48, none)] => some (∀ i : Nat, i < 10 → qq_in (S 49 i), some (zz_cnt (S 49) (-1) 10), S)
  | 51, [.inr (48, none)] => some (∀ i : Nat, i < 10 → qq_in (S 51 i), some (zz_cnt (S 51) 0 10), S)
  | 44, [.inr (48, none), .inl w, .inl h] => some (True, none, zz_rs (qq_u (qq_u S 48 0 w) 48 1 h) 49 50 51 10)
  | 44, [.inr (56, none), .inl w, .inl h] => some (True, none, zz_rs (qq_u (qq_u S 56 0 w) 56 1 h) 57 58 59 10)
  | 33, [.inr (4, none), .inl a, .inl b] => some (qq_in a ∧ qq_in b ∧ (0 ≤ S 4 0 ∧ S 4 0 ≤ 10) ∧ (∀ i : Nat, (i : Int) < S 4 0 → qq_in (S 5 i) ∧ qq_in (S 6 i)), some (zz_b (zz_has (S 5) (S 6) a b (S 4 0).toNat = true)), S)
  | 34, [.inr (4, none), .inl a, .inl b] => some (0 ≤ S 4 0 ∧ S 4 0 < 10, some (S 4 0), qq_u (qq_u (qq_u S 5 (S 4 0).toNat a) 6 (S 4 0).toNat b) 4 0 (S 4 0 + 1))
  | _, _ => none
theorem sp_6_ok {xs : List Int32} (hxs : xs.length ≤ 2048) (d : Nat) : qq_ok xs (d + 3) sp_6 := by
  intro y as S pre r S2 h hp
  unfold sp_6 at h
  split at h
  · cases h; exact f110 hxs (d + 2) S _ _ _ hp
  · cases h; exact f114 hxs (d + 2) S _ _ _ hp
  · cases h; exact f108 hxs (d + 2) S _ hp
  · cases h; exact f109 hxs (d + 2) S _ hp
  · cases h; exact f115 hxs (d + 2) S _ hp
  · cases h; exact f31 hxs (d + 2) S _ hp
  · cases h; exact f32 hxs (d + 2) S _ hp
  · cases h; exact f107 hxs (d + 2) S hp
  · cases h; exact f177 hxs (d + 2) S hp
  · cases h; exact f45_48 hxs (d + 2) S hp
  · cases h; exact f46_48 hxs (d + 2) S _ hp
  · cases h; exact f52_48 hxs (d + 2) S _ _ hp
  · cases h; exact f45_56 hxs (d + 2) S hp
  · cases h; exact f46_56 hxs (d + 2) S _ hp
  · cases h; exact f52_56 hxs (d + 2) S _ _ hp
  · cases h; exact f64 hxs (d + 2) S _ _ hp
  · cases h; exact f111 hxs (d + 1) S _ hp
  · cases h; exact f116 hxs (d + 1) S _ hp
  · cases h; exact f92 hxs (d + 1) S _ hp
  · cases h; exact f132 hxs (d + 1) S _ hp
  · cases h; exact f93 hxs (d + 0) S _ _ _ hp
  · cases h; exact f133 hxs (d + 1) S _ _ _ hp
  · cases h; exact f47_48 hxs (d + 1) S _ hp
  · cases h; exact f48_48 hxs (d + 2) S _ _ hp
  · cases h; exact f47_56 hxs (d + 1) S _ hp
  · cases h; exact f48_56 hxs (d + 2) S _ _ hp
  · cases h; exact f35 hxs (d + 2) S hp
  · cases h; exact f50 hxs (d + 1) S hp
  · cases h; exact f51 hxs (d + 1) S hp
  · cases h; exact f44_48 hxs (d + 2) S _ _ hp
  · cases h; exact f44_56 hxs (d + 2) S _ _ hp
  · cases h; exact f33 hxs (d + 2) S _ _ hp
  · cases h; exact f34 hxs (d + 2) S _ _ hp
  · cases h
set_option maxRecDepth 20000 in
theorem f85 {xs : List Int32} (hxs : xs.length ≤ 2048) (d : Nat) (S : qq_S) (a : Int) (b : Int) (hp : qq_in a ∧ qq_in b ∧ (0 ≤ S 4 0 ∧ S 4 0 ≤ 10) ∧ (∀ i : Nat, (i : Int) < S 4 0 → qq_in (S 5 i) ∧ qq_in (S 6 i))) : qq_E xs (d + 4) 85 [.inr (3, none), .inl a, .inl b] S (some (if (0 ≤ a ∧ a ≤ 1000 ∧ 0 ≤ b ∧ b ≤ 1000) then (if zz_has (S 5) (S 6) a b (S 4 0).toNat = true then -4 else if S 4 0 < 10 then S 4 0 else -5) else -1)) (if (0 ≤ a ∧ a ≤ 1000 ∧ 0 ≤ b ∧ b ≤ 1000) then (if zz_has (S 5) (S 6) a b (S 4 0).toNat = true then qq_u S 3 9 (-4) else if S 4 0 < 10 then qq_u (qq_u (qq_u (qq_u S 5 (S 4 0).toNat a) 6 (S 4 0).toNat b) 4 0 (S 4 0 + 1)) 3 9 0 else qq_u S 3 9 (-5)) else qq_u S 3 9 (-1)) := by
  have h : qq_p xs (d + 3) (mm_mr mm_m85) (mm_mk mm_m85) (fun r S' => r = some (if (0 ≤ a ∧ a ≤ 1000 ∧ 0 ≤ b ∧ b ≤ 1000) then (if zz_has (S 5) (S 6) a b (S 4 0).toNat = true then -4 else if S 4 0 < 10 then S 4 0 else -5) else -1) ∧ S' = if (0 ≤ a ∧ a ≤ 1000 ∧ 0 ≤ b ∧ b ≤ 1000) then (if zz_has (S 5) (S 6) a b (S 4 0).toNat = true then qq_u S 3 9 (-4) else if S 4 0 < 10 then qq_u (qq_u (qq_u (qq_u S 5 (S 4 0).toNat a) 6 (S 4 0).toNat b) 4 0 (S 4 0 + 1)) 3 9 0 else qq_u S 3 9 (-5)) else qq_u S 3 9 (-1)) 0 (qq_ent mm_m85 [.inr (3, none), .inl a, .inl b]) [] S := by
    refine qq_fsound hxs (sp_6_ok hxs (d + 0)) [] 200 ?_
    repeat' first | apply And.intro | intro _
    all_goals (first | rfl | omega | grind [qq_in, zz_b])
  obtain ⟨r, S', hE, e1, e2⟩ := qq_call_of (y := 85) rfl (Nat.le_of_ble_eq_true rfl) h
  rw [e1, e2] at hE
  exact hE
set_option maxRecDepth 20000 in
theorem f117 {xs : List Int32} (hxs : xs.length ≤ 2048) (d : Nat) (S : qq_S) (a : Int) (b : Int) (hp : qq_in a ∧ qq_in b ∧ (0 ≤ S 115 1 ∧ S 115 1 ≤ 10) ∧ (∀ i : Nat, (i : Int) < S 115 1 → qq_in (S 116 i) ∧ qq_in (S 117 i))) : qq_E xs (d + 4) 117 [.inr (115, none), .inl a, .inl b] S (some (if (0 ≤ a ∧ a ≤ 1000 ∧ 0 ≤ b ∧ b ≤ 1000) then (if zz_has (S 116) (S 117) a b (S 115 1).toNat = true then -4 else if S 115 1 < 10 then S 115 1 else -5) else -1)) (if (0 ≤ a ∧ a ≤ 1000 ∧ 0 ≤ b ∧ b ≤ 1000) then (if zz_has (S 116) (S 117) a b (S 115 1).toNat = true then qq_u S 115 0 (-4) else if S 115 1 < 10 then qq_u (qq_u (qq_u (qq_u (qq_u (qq_u (qq_u S 116 (S 115 1).toNat a) 117 (S 115 1).toNat b) 123 (S 115 1).toNat (-1)) 124 (S 115 1).toNat 0) 125 (S 115 1).toNat 0) 115 1 (S 115 1 + 1)) 115 0 0 else qq_u S 115 0 (-5)) else qq_u S 115 0 (-1)) := by
  have L : ∀ (k9 : Nat) (i : Int), 0 ≤ i ∧ i + k9 = S 115 1 → zz_has (S 116) (S 117) a b i.toNat = false ∧ (0 ≤ a ∧ a ≤ 1000 ∧ 0 ≤ b ∧ b ≤ 1000) → qq_p xs (d + 3) (mm_mr mm_m117) (mm_mk mm_m117) (fun r S' => r = some (if (0 ≤ a ∧ a ≤ 1000 ∧ 0 ≤ b ∧ b ≤ 1000) then (if zz_has (S 116) (S 117) a b (S 115 1).toNat = true then -4 else if S 115 1 < 10 then S 115 1 else -5) else -1) ∧ S' = if (0 ≤ a ∧ a ≤ 1000 ∧ 0 ≤ b ∧ b ≤ 1000) then (if zz_has (S 116) (S 117) a b (S 115 1).toNat = true then qq_u S 115 0 (-4) else if S 115 1 < 10 then qq_u (qq_u (qq_u (qq_u (qq_u (qq_u (qq_u S 116 (S 115 1).toNat a) 117 (S 115 1).toNat b) 123 (S 115 1).toNat (-1)) 124 (S 115 1).toNat 0) 125 (S 115 1).toNat 0) 115 1 (S 115 1 + 1)) 115 0 0 else qq_u S 115 0 (-5)) else qq_u S 115 0 (-1)) 30 [some (.inr (115, none)), some (.inl a), some (.inl b), some (.inl i)] [] (S) := by
    intro k9
    induction k9 with
    | zero =>
      intro i hm hv
      refine qq_fsound hxs (sp_6_ok hxs (d + 0)) [30] 200 ?_
      repeat' first | apply And.intro | intro _
      all_goals (first | omega | (have q9 := hp.2.2.2 i.toNat (by omega); grind [qq_in]) | (refine ih _ ?_ ?_ <;> first | omega | grind [zz_has_s]) | (have hi9 : i = S 115 1 := (by omega); grind [qq_in, zz_b, qq_u]) | (have q9 := zz_has_at (S 116) (S 117) a b i (S 115 1) (by omega); grind [zz_b]) | grind [qq_in, zz_b, qq_u, qq_un', qq_us])
    | succ k9 ih =>
      intro i hm hv
      refine qq_fsound hxs (sp_6_ok hxs (d + 0)) [30] 200 ?_
      repeat' first | apply And.intro | intro _
      all_goals (first | omega | (have q9 := hp.2.2.2 i.toNat (by omega); grind [qq_in]) | (refine ih _ ?_ ?_ <;> first | omega | grind [zz_has_s]) | (have hi9 : i = S 115 1 := (by omega); grind [qq_in, zz_b, qq_u]) | (have q9 := zz_has_at (S 116) (S 117) a b i (S 115 1) (by omega); grind [zz_b]) | grind [qq_in, zz_b, qq_u, qq_un', qq_us])
  have h : qq_p xs (d + 3) (mm_mr mm_m117) (mm_mk mm_m117) (fun r S' => r = some (if (0 ≤ a ∧ a ≤ 1000 ∧ 0 ≤ b ∧ b ≤ 1000) then (if zz_has (S 116) (S 117) a b (S 115 1).toNat = true then -4 else if S 115 1 < 10 then S 115 1 else -5) else -1) ∧ S' = if (0 ≤ a ∧ a ≤ 1000 ∧ 0 ≤ b ∧ b ≤ 1000) then (if zz_has (S 116) (S 117) a b (S 115 1).toNat = true then qq_u S 115 0 (-4) else if S 115 1 < 10 then qq_u (qq_u (qq_u (qq_u (qq_u (qq_u (qq_u S 116 (S 115 1).toNat a) 117 (S 115 1).toNat b) 123 (S 115 1).toNat (-1)) 124 (S 115 1).toNat 0) 125 (S 115 1).toNat 0) 115 1 (S 115 1 + 1)) 115 0 0 else qq_u S 115 0 (-5)) else qq_u S 115 0 (-1)) 0 (qq_ent mm_m117 [.inr (115, none), .inl a, .inl b]) [] S := by
    refine qq_fsound hxs (sp_6_ok hxs (d + 0)) [30] 200 ?_
    repeat' first | apply And.intro | intro _
    all_goals (first | omega | (refine L (S 115 1).toNat _ ?_ ?_ <;> first | omega | (refine ⟨rfl, ?_⟩; grind [zz_b])) | grind [qq_in, zz_b])
  obtain ⟨r, S', hE, e1, e2⟩ := qq_call_of (y := 117) rfl (Nat.le_of_ble_eq_true rfl) h
  rw [e1, e2] at hE
  exact hE
end
section
theorem zz_rs_ne {S : qq_S} {x y h a : Nat} {i : Int} (h1 : a ≠ x) (h2 : a ≠ y) (h3 : a ≠ h) : zz_rs S x y h i a = S a := by
  funext j
  unfold zz_rs
  rw [if_neg (fun z => z.1.elim h1 h2), if_neg (fun z => h3 z.1)]
theorem zz_rs_R {S : qq_S} {x y h b n : Nat} {i : Int} (h1 : x < b ∨ b + n ≤ x) (h2 : y < b ∨ b + n ≤ y) (h3 : h < b ∨ b + n ≤ h) : qq_R (zz_rs S x y h i) b n = qq_R S b n := by
  funext l
  unfold qq_R
  split
  · rw [zz_rs_ne (by omega) (by omega) (by omega)]
  · rfl
theorem zz_rs_x {S : qq_S} {x y h : Nat} {i : Int} : zz_rs S x y h i x = fun j : Nat => if (j : Int) < i then -1 else S x j := by
  funext j
  unfold zz_rs
  by_cases e : (j : Int) < i
  · simp [e]
  · simp [e]
theorem zz_rs_y {S : qq_S} {x y h : Nat} {i : Int} : zz_rs S x y h i y = fun j : Nat => if (j : Int) < i then -1 else S y j := by
  funext j
  unfold zz_rs
  by_cases e : (j : Int) < i
  · simp [e]
  · simp [e]
theorem zz_rs_h {S : qq_S} {x y h : Nat} {i : Int} (h1 : h ≠ x) (h2 : h ≠ y) : zz_rs S x y h i h = fun j : Nat => if (j : Int) < i then 0 else S h j := by
  funext j
  unfold zz_rs
  rw [if_neg (fun z => z.1.elim h1 h2)]
  simp
theorem ip_grid {n w h a b : Int} {X Y H : Nat → Int} {w' h' : Int} {P' H' : Nat → Int} (hp : i_plan n w h X Y H w' h' P' H') (hn : n ≤ 10) (hc : 2 ≤ a ∧ a ≤ 8 ∧ 2 ≤ b ∧ b ≤ 8) : i_plan n a b (fun j => if (j : Int) < 10 then -1 else X j) (fun j => if (j : Int) < 10 then -1 else Y j) (fun j => if (j : Int) < 10 then 0 else H j) a b (fun j => if (j : Int) < 10 then -1 else P' j) (fun j => if (j : Int) < 10 then 0 else H' j) := by
  refine ⟨by omega, fun s hs => ?_, fun s hs => ?_⟩
  · have e : (s : Int) < 10 := by omega
    simp [e, i_at]
  · have e : (s : Int) < 10 := by omega
    simp [e, zz_pt]
theorem in_st {n L L' a b : Int} {X Y X' Y' : Nat → Int} {n' : Int} (h : i_net n n' L L' X Y X' Y') (hc : 0 ≤ a ∧ a ≤ 1000 ∧ 0 ≤ b ∧ b ≤ 1000) (hh : ¬ zz_has X Y a b n.toNat = true) (h10 : n < 10) : i_net (n + 1) (n + 1) L L' (fun j => if j = n.toNat then a else X j) (fun j => if j = n.toNat then b else Y j) (fun j => if j = n.toNat then a else X' j) (fun j => if j = n.toNat then b else Y' j) := by
  obtain ⟨a1, a2, a3⟩ := h
  have hn : ∀ i : Nat, (i : Int) < n → ¬ (X i = a ∧ Y i = b) := fun i hi z => hh ((zz_has_iff X Y a b n.toNat).mpr ⟨i, by omega, z⟩)
  refine ⟨by omega, fun i hi => ?_, fun i j hi hj => ?_⟩
  · by_cases e : i = n.toNat
    · simp only [if_pos e]
      refine ⟨hc.1, hc.2.1, hc.2.2.1, hc.2.2.2, ?_, ?_⟩ <;> first | trivial | rfl
    · simp only [if_neg e]
      exact a2 i (by omega)
  · by_cases e : i = n.toNat <;> by_cases f : j = n.toNat
    · intros; omega
    · simp only [if_pos e, if_neg f]
      intro p q
      exact absurd ⟨p.symm, q.symm⟩ (hn j (by omega))
    · simp only [if_neg e, if_pos f]
      intro p q
      exact absurd ⟨p, q⟩ (hn i (by omega))
    · simp only [if_neg e, if_neg f]
      exact a3 i j (by omega) (by omega)
theorem il_st {n L : Int} {Z Z' : Nat → Int} {row rank : Nat → Nat → Int} {lof : Nat → Int} (h : i_line n L Z Z' row rank lof) : i_line (n + 1) L Z Z' row rank lof := by
  obtain ⟨a1, a2, a3⟩ := h
  refine ⟨fun l hl => ?_, a2, a3⟩
  obtain ⟨b1, b2, b3, b4⟩ := a1 l hl
  exact ⟨b1, b2, b3, fun i hi => by have := b4 i hi; exact ⟨this.1, by omega, this.2.2⟩⟩
theorem ie_st {n L E E' a b : Int} {X Y Z : Nat → Int} {row : Nat → Nat → Int} {lo hi hd lo' hi' : Nat → Int} {eo : Nat → Nat → Int} (h : i_edge n L E E' X Y Z row lo hi hd lo' hi' eo) (h0 : 0 ≤ n) : i_edge (n + 1) L E E' (fun j => if j = n.toNat then a else X j) (fun j => if j = n.toNat then b else Y j) Z row lo hi hd lo' hi' eo := by
  obtain ⟨a1, a2, a3, a4, a5⟩ := h
  refine ⟨a1, fun e he => ?_, a3, a4, a5⟩
  obtain ⟨b1, b2, b3, b4, b5, b6, b7, b8⟩ := a2 e he
  have q1 : ¬ (hi e).toNat = n.toNat := by omega
  have q2 : ¬ (lo e).toNat = n.toNat := by omega
  refine ⟨b1, b2, by omega, b4, b5, ?_, b7, b8⟩
  simp only [if_neg q1, if_neg q2]
  exact b6
theorem ir_st {n L E E' a b : Int} {X Y Z dg : Nat → Int} {row : Nat → Nat → Int} {lo hi hd lo' hi' : Nat → Int} {ring eo : Nat → Nat → Int} (h3 : i_edge n L E E' X Y Z row lo hi hd lo' hi' eo) (h : i_ring n X Y dg ring eo) (h0 : 0 ≤ n) (h10 : n < 10) : i_ring (n + 1) (fun j => if j = n.toNat then a else X j) (fun j => if j = n.toNat then b else Y j) dg ring eo := by
  intro s hs
  obtain ⟨b1, b2, b3, b4⟩ := h s hs
  refine ⟨b1, fun i hi => by have := b2 i hi; exact ⟨this.1, by omega, this.2.2⟩, b3, fun i j hij hj => ?_⟩
  have r1 := b2 i (by omega)
  have r2 := b2 j hj
  have hsn : ¬ s = n.toNat := by
    have := h3.2.2.1 s (ring s j).toNat hs (by omega)
    rcases this with z | ⟨z1, z2, z3⟩
    · exact absurd z r2.2.2.2
    · have := h3.2.1 (eo s (ring s j).toNat).toNat (by omega)
      omega
  have q1 : ¬ (ring s i).toNat = n.toNat := by omega
  have q2 : ¬ (ring s j).toNat = n.toNat := by omega
  have := b4 i j hij hj
  unfold zz_ahead at this ⊢
  simp only [if_neg q1, if_neg q2, if_neg hsn]
  exact this
theorem ip_st {n w h : Int} {X Y H : Nat → Int} {w' h' : Int} {P' H' : Nat → Int} (hp : i_plan n w h X Y H w' h' P' H') (h0 : 0 ≤ n) (h10 : n < 10) : i_plan (n + 1) w h X Y H w' h' (fun j => if j = n.toNat then -1 else P' j) (fun j => if j = n.toNat then 0 else H' j) := by
  obtain ⟨a1, a2, a3⟩ := hp
  refine ⟨a1, fun s hs => ?_, fun s hs => ?_⟩
  · obtain ⟨b1, b2, b3, b4⟩ := a2 s hs
    exact ⟨b1, b2, b3, fun z => b4 (by omega)⟩
  · by_cases e : s = n.toNat
    · obtain ⟨b1, b2, b3, b4⟩ := a2 s (by omega)
      simp only [if_pos e]
      have hx := b4 (by omega)
      exact ⟨(b3 hx).symm, by unfold zz_pt; rw [if_pos hx]⟩
    · simp only [if_neg e]
      exact a3 s (by omega)
theorem in2_st {n : Int} {N sd hn : Nat → Int} {put : Int} {N' hn' sd' : Nat → Int} (h : i_names n N sd hn put N' hn' sd') (h0 : 0 ≤ n) (h10 : n < 10) : i_names (n + 1) N sd hn put (fun j => if j = n.toNat then 0 else N' j) hn' sd' := by
  obtain ⟨a1, a2⟩ := h
  refine ⟨by omega, fun s hs => ?_⟩
  obtain ⟨b1, b2, b3, b4, b5⟩ := a2 s hs
  refine ⟨b1, b2, fun z => ?_, fun z => b4 (by omega), b5⟩
  by_cases e : s = n.toNat
  · simp only [if_pos e]
    exact (b4 (by omega)).symm
  · simp only [if_neg e]
    exact b3 (by omega)
theorem ii_st {k : Nat} {n f f' w h : Int} {X Y H kp : Nat → Int} (hi : i_img k n f f' w h X Y H kp) : i_img k (n + 1) f f' w h X Y H kp := by
  obtain ⟨a1, a2, a3⟩ := hi
  refine ⟨a1, a2, fun z => ?_⟩
  obtain ⟨b1, b2⟩ := a3 z
  refine ⟨b1, fun s hs => ?_⟩
  obtain ⟨c1, c2, c3, c4, c5⟩ := b2 s hs
  exact ⟨c1, c2, c3, fun q => c4 (by omega), c5⟩
theorem o_grid {xs : List Int32} (hxs : xs.length ≤ 2048) (S : qq_S) (a : Int) (b : Int) (ha : qq_in a) (hb : qq_in b) (hI : inv S) : qq_op xs 29 91 131 [.inl a, .inl b] S := by
  have hI0 := hI
  obtain ⟨h1, h2, h3, h4, h5, h6, h7, h8, h9, h10, h11⟩ := hI
  have g1 := h1
  have g5 := h5
  have g6 := h6
  have g7 := h7
  unfold i_net at g1
  unfold i_plan at g5
  unfold i_terms at g6
  unfold i_names at g7
  have e1 := f91 hxs 0 S a b ⟨ha, hb⟩
  by_cases c0 : (2 ≤ a ∧ a ≤ 8 ∧ 2 ≤ b ∧ b ≤ 8)
  · simp only [c0, not_true_eq_false, not_false_eq_true, if_true, if_false, ite_true, ite_false, and_self, true_and, and_true] at e1
    have e2 := f131 hxs 0 (qq_u (zz_rs (qq_u (qq_u S 48 0 a) 48 1 b) 49 50 51 10) 3 9 0) a b (by (try simp (decide := true) only [qq_un', qq_us]); exact ⟨ha, hb⟩)
    try simp (decide := true) only [qq_un', qq_ueq] at e2
    simp only [c0, not_true_eq_false, not_false_eq_true, if_true, if_false, ite_true, ite_false, and_self, true_and, and_true] at e2
    refine qq_op_of e1 e2 (by decide) (by decide) (rfl) (by unfold qq_in; omega) ?_
    unfold inv
    simp (decide := true) only [qq_un', qq_un2, qq_us, qq_ueq, qq_R_u, qq_usf, zz_rs_ne, zz_rs_R, zz_rs_x, zz_rs_y, zz_rs_h]
    refine ⟨h1, h2, h3, h4, ?_, h6, h7, h8, h9, h10, ?_⟩
    · exact ip_grid h5 (by omega) c0
    · exact ⟨by first | trivial | omega, by unfold qq_in; omega⟩
  · simp only [c0, not_true_eq_false, not_false_eq_true, if_true, if_false, ite_true, ite_false, and_self, true_and, and_true] at e1
    have e2 := f131 hxs 0 (qq_u S 3 9 (-1)) a b (by (try simp (decide := true) only [qq_un', qq_us]); exact ⟨ha, hb⟩)
    try simp (decide := true) only [qq_un', qq_ueq] at e2
    simp only [c0, not_true_eq_false, not_false_eq_true, if_true, if_false, ite_true, ite_false, and_self, true_and, and_true] at e2
    refine qq_op_of e1 e2 (by decide) (by decide) (rfl) (by unfold qq_in; omega) ?_
    unfold inv
    simp (decide := true) only [qq_un', qq_un2, qq_us, qq_ueq, qq_R_u, qq_usf, zz_rs_ne, zz_rs_R, zz_rs_x, zz_rs_y, zz_rs_h]
    refine ⟨h1, h2, h3, h4, h5, h6, h7, h8, h9, h10, ?_⟩
    · exact ⟨by first | trivial | omega, by unfold qq_in; omega⟩
theorem o_station {xs : List Int32} (hxs : xs.length ≤ 2048) (S : qq_S) (a : Int) (b : Int) (ha : qq_in a) (hb : qq_in b) (hI : inv S) : qq_op xs 29 85 117 [.inl a, .inl b] S := by
  have hI0 := hI
  obtain ⟨h1, h2, h3, h4, h5, h6, h7, h8, h9, h10, h11⟩ := hI
  have g1 := h1
  have g5 := h5
  have g6 := h6
  have g7 := h7
  unfold i_net at g1
  unfold i_plan at g5
  unfold i_terms at g6
  unfold i_names at g7
  have e1 := f85 hxs 0 S a b ⟨ha, hb, by omega, fun i hi => by have := g1.2.1 i hi; unfold qq_in; omega⟩
  by_cases c0 : (0 ≤ a ∧ a ≤ 1000 ∧ 0 ≤ b ∧ b ≤ 1000)
  · by_cases c1 : zz_has (S 5) (S 6) a b (S 4 0).toNat = true
    · simp only [if_pos c0, if_pos c1] at e1
      have e2 := f117 hxs 0 (qq_u S 3 9 (-4)) a b (by (try simp (decide := true) only [qq_un', qq_us]); exact ⟨ha, hb, by omega, fun i hi => by have := g1.2.1 i (by omega); unfold qq_in; omega⟩)
      try simp (decide := true) only [qq_un', qq_ueq] at e2
      have q0 : S 115 1 = S 4 0 := by omega
      simp only [q0] at e2
      have x0 : zz_has (S 116) (S 117) a b (S 4 0).toNat = zz_has (S 5) (S 6) a b (S 4 0).toNat := zz_has_eq _ _ _ _ _ _ _ (fun i hi => by have := g1.2.1 i (by omega); omega)
      simp only [x0] at e2
      simp only [if_pos c0, if_pos c1] at e2
      refine qq_op_of e1 e2 (by decide) (by decide) (rfl) (by unfold qq_in; omega) ?_
      unfold inv
      simp (decide := true) only [qq_un', qq_un2, qq_us, qq_ueq, qq_R_u, qq_usf, zz_rs_ne, zz_rs_R, zz_rs_x, zz_rs_y, zz_rs_h]
      refine ⟨h1, h2, h3, h4, h5, h6, h7, h8, h9, h10, ?_⟩
      · exact ⟨by first | trivial | omega, by unfold qq_in; omega⟩
    · by_cases c2 : S 4 0 < 10
      · simp only [if_pos c0, if_neg c1, if_pos c2] at e1
        have e2 := f117 hxs 0 (qq_u (qq_u (qq_u (qq_u S 5 (S 4 0).toNat a) 6 (S 4 0).toNat b) 4 0 (S 4 0 + 1)) 3 9 0) a b (by (try simp (decide := true) only [qq_un', qq_us]); exact ⟨ha, hb, by omega, fun i hi => by have := g1.2.1 i (by omega); unfold qq_in; omega⟩)
        try simp (decide := true) only [qq_un', qq_ueq] at e2
        have q0 : S 115 1 = S 4 0 := by omega
        simp only [q0] at e2
        have x0 : zz_has (S 116) (S 117) a b (S 4 0).toNat = zz_has (S 5) (S 6) a b (S 4 0).toNat := zz_has_eq _ _ _ _ _ _ _ (fun i hi => by have := g1.2.1 i (by omega); omega)
        simp only [x0] at e2
        simp only [if_pos c0, if_neg c1, if_pos c2] at e2
        refine qq_op_of e1 e2 (by decide) (by decide) (rfl) (by unfold qq_in; omega) ?_
        unfold inv
        simp (decide := true) only [qq_un', qq_un2, qq_us, qq_ueq, qq_R_u, qq_usf, zz_rs_ne, zz_rs_R, zz_rs_x, zz_rs_y, zz_rs_h]
        refine ⟨?_, ?_, ?_, ?_, ?_, h6, ?_, ?_, ?_, ?_, ?_⟩
        · exact in_st h1 c0 c1 c2
        · exact il_st h2
        · exact ie_st h3 g1.1.1
        · exact ir_st h3 h4 g1.1.1 c2
        · exact ip_st h5 g1.1.1 c2
        · exact in2_st h7 g1.1.1 c2
        · exact ii_st h8
        · exact ii_st h9
        · exact ii_st h10
        · exact ⟨by first | trivial | omega, by unfold qq_in; omega⟩
      · simp only [if_pos c0, if_neg c1, if_neg c2] at e1
        have e2 := f117 hxs 0 (qq_u S 3 9 (-5)) a b (by (try simp (decide := true) only [qq_un', qq_us]); exact ⟨ha, hb, by omega, fun i hi => by have := g1.2.1 i (by omega); unfold qq_in; omega⟩)
        try simp (decide := true) only [qq_un', qq_ueq] at e2
        have q0 : S 115 1 = S 4 0 := by omega
        simp only [q0] at e2
        have x0 : zz_has (S 116) (S 117) a b (S 4 0).toNat = zz_has (S 5) (S 6) a b (S 4 0).toNat := zz_has_eq _ _ _ _ _ _ _ (fun i hi => by have := g1.2.1 i (by omega); omega)
        simp only [x0] at e2
        simp only [if_pos c0, if_neg c1, if_neg c2] at e2
        refine qq_op_of e1 e2 (by decide) (by decide) (rfl) (by unfold qq_in; omega) ?_
        unfold inv
        simp (decide := true) only [qq_un', qq_un2, qq_us, qq_ueq, qq_R_u, qq_usf, zz_rs_ne, zz_rs_R, zz_rs_x, zz_rs_y, zz_rs_h]
        refine ⟨h1, h2, h3, h4, h5, h6, h7, h8, h9, h10, ?_⟩
        · exact ⟨by first | trivial | omega, by unfold qq_in; omega⟩
  · simp only [if_neg c0] at e1
    have e2 := f117 hxs 0 (qq_u S 3 9 (-1)) a b (by (try simp (decide := true) only [qq_un', qq_us]); exact ⟨ha, hb, by omega, fun i hi => by have := g1.2.1 i (by omega); unfold qq_in; omega⟩)
    try simp (decide := true) only [qq_un', qq_ueq] at e2
    have q0 : S 115 1 = S 4 0 := by omega
    simp only [q0] at e2
    have x0 : zz_has (S 116) (S 117) a b (S 4 0).toNat = zz_has (S 5) (S 6) a b (S 4 0).toNat := zz_has_eq _ _ _ _ _ _ _ (fun i hi => by have := g1.2.1 i (by omega); omega)
    simp only [x0] at e2
    simp only [if_neg c0] at e2
    refine qq_op_of e1 e2 (by decide) (by decide) (rfl) (by unfold qq_in; omega) ?_
    unfold inv
    simp (decide := true) only [qq_un', qq_un2, qq_us, qq_ueq, qq_R_u, qq_usf, zz_rs_ne, zz_rs_R, zz_rs_x, zz_rs_y, zz_rs_h]
    refine ⟨h1, h2, h3, h4, h5, h6, h7, h8, h9, h10, ?_⟩
    · exact ⟨by first | trivial | omega, by unfold qq_in; omega⟩
end
section
set_option maxRecDepth 20000 in
theorem f106 {xs : List Int32} (hxs : xs.length ≤ 2048) (d : Nat) (S : qq_S) (a : Int) (hp : qq_in a ∧ (∀ i : Nat, i < 10 → qq_in (S 49 i)) ∧ (∀ i : Nat, i < 10 → qq_in (S 51 i))) : qq_E xs (d + 4) 106 [.inr (3, none), .inl a] S (some (if a = 0 then S 4 0 else if a = 1 then S 4 1 else if a = 2 then zz_cnt (S 49) (-1) 10 else if a = 3 then zz_cnt (S 51) 0 10 else if a = 4 then S 48 0 else if a = 5 then S 48 1 else if a = 6 then S 52 3 else -1)) (S) := by
  have h : qq_p xs (d + 3) (mm_mr mm_m106) (mm_mk mm_m106) (fun r S' => r = some (if a = 0 then S 4 0 else if a = 1 then S 4 1 else if a = 2 then zz_cnt (S 49) (-1) 10 else if a = 3 then zz_cnt (S 51) 0 10 else if a = 4 then S 48 0 else if a = 5 then S 48 1 else if a = 6 then S 52 3 else -1) ∧ S' = S) 0 (qq_ent mm_m106 [.inr (3, none), .inl a]) [] S := by
    refine qq_fsound hxs (sp_6_ok hxs (d + 0)) [] 200 ?_
    repeat' first | apply And.intro | intro _ | (simp only [qq_tab])
    all_goals (first | rfl | omega | exact hp.2.1 | exact hp.2.2 | grind [qq_in])
  obtain ⟨r, S', hE, e1, e2⟩ := qq_call_of (y := 106) rfl (Nat.le_of_ble_eq_true rfl) h
  rw [e1, e2] at hE
  exact hE
set_option maxRecDepth 20000 in
theorem f176 {xs : List Int32} (hxs : xs.length ≤ 2048) (d : Nat) (S : qq_S) (a : Int) (hp : qq_in a ∧ (0 ≤ S 115 1 ∧ S 115 1 ≤ 10) ∧ (∀ i : Nat, (i : Int) < S 115 1 → qq_in (S 123 i)) ∧ (∀ i : Nat, (i : Int) < S 115 1 → qq_in (S 124 i))) : qq_E xs (d + 4) 176 [.inr (115, none), .inl a] S (some (if a = 0 then S 115 1 else if a = 1 then S 115 2 else if a = 2 then zz_cnt (S 123) (-1) (S 115 1).toNat else if a = 3 then zz_cnt (S 124) 0 (S 115 1).toNat else if a = 4 then S 115 12 else if a = 5 then S 115 13 else if a = 6 then S 115 14 else -1)) (S) := by
  have L2 : ∀ (k9 : Nat) (i c : Int), 0 ≤ i ∧ i + k9 = S 115 1 → c = zz_cnt (S 123) (-1) i.toNat ∧ a = 2 → qq_p xs (d + 3) (mm_mr mm_m176) (mm_mk mm_m176) (fun r S' => r = some (if a = 0 then S 115 1 else if a = 1 then S 115 2 else if a = 2 then zz_cnt (S 123) (-1) (S 115 1).toNat else if a = 3 then zz_cnt (S 124) 0 (S 115 1).toNat else if a = 4 then S 115 12 else if a = 5 then S 115 13 else if a = 6 then S 115 14 else -1) ∧ S' = S) 56 [some (.inr (115, none)), some (.inl a), some (.inl c), some (.inl i)] [] (S) := by
    intro k9
    induction k9 with
    | zero =>
      intro i c hm hv
      refine qq_fsound hxs (sp_6_ok hxs (d + 0)) [56, 92] 300 ?_
      repeat' first | apply And.intro | intro _
      all_goals (first | omega | (refine ih _ _ ?_ ?_ <;> first | omega | (refine ⟨?_, hv.2⟩; grind [zz_cnt_s])) | (have hi9 : i = S 115 1 := (by omega); grind) | (have q9 := hp.2.2.1 i.toNat (by omega); grind [qq_in]))
    | succ k9 ih =>
      intro i c hm hv
      refine qq_fsound hxs (sp_6_ok hxs (d + 0)) [56, 92] 300 ?_
      repeat' first | apply And.intro | intro _
      all_goals (first | omega | (refine ih _ _ ?_ ?_ <;> first | omega | (refine ⟨?_, hv.2⟩; grind [zz_cnt_s])) | (have hi9 : i = S 115 1 := (by omega); grind) | (have q9 := hp.2.2.1 i.toNat (by omega); grind [qq_in]))
  have L3 : ∀ (k9 : Nat) (i c : Int), 0 ≤ i ∧ i + k9 = S 115 1 → c = zz_cnt (S 124) 0 i.toNat ∧ a = 3 → qq_p xs (d + 3) (mm_mr mm_m176) (mm_mk mm_m176) (fun r S' => r = some (if a = 0 then S 115 1 else if a = 1 then S 115 2 else if a = 2 then zz_cnt (S 123) (-1) (S 115 1).toNat else if a = 3 then zz_cnt (S 124) 0 (S 115 1).toNat else if a = 4 then S 115 12 else if a = 5 then S 115 13 else if a = 6 then S 115 14 else -1) ∧ S' = S) 92 [some (.inr (115, none)), some (.inl a), some (.inl c), some (.inl i)] [] (S) := by
    intro k9
    induction k9 with
    | zero =>
      intro i c hm hv
      refine qq_fsound hxs (sp_6_ok hxs (d + 0)) [56, 92] 300 ?_
      repeat' first | apply And.intro | intro _
      all_goals (first | omega | (refine ih _ _ ?_ ?_ <;> first | omega | (refine ⟨?_, hv.2⟩; grind [zz_cnt_s])) | (have hi9 : i = S 115 1 := (by omega); grind) | (have q9 := hp.2.2.2 i.toNat (by omega); grind [qq_in]))
    | succ k9 ih =>
      intro i c hm hv
      refine qq_fsound hxs (sp_6_ok hxs (d + 0)) [56, 92] 300 ?_
      repeat' first | apply And.intro | intro _
      all_goals (first | omega | (refine ih _ _ ?_ ?_ <;> first | omega | (refine ⟨?_, hv.2⟩; grind [zz_cnt_s])) | (have hi9 : i = S 115 1 := (by omega); grind) | (have q9 := hp.2.2.2 i.toNat (by omega); grind [qq_in]))
  have h : qq_p xs (d + 3) (mm_mr mm_m176) (mm_mk mm_m176) (fun r S' => r = some (if a = 0 then S 115 1 else if a = 1 then S 115 2 else if a = 2 then zz_cnt (S 123) (-1) (S 115 1).toNat else if a = 3 then zz_cnt (S 124) 0 (S 115 1).toNat else if a = 4 then S 115 12 else if a = 5 then S 115 13 else if a = 6 then S 115 14 else -1) ∧ S' = S) 0 (qq_ent mm_m176 [.inr (115, none), .inl a]) [] S := by
    refine qq_fsound hxs (sp_6_ok hxs (d + 0)) [56, 92] 300 ?_
    repeat' first | apply And.intro | intro _ | (simp only [qq_tab])
    all_goals (first | omega | (refine L2 (S 115 1).toNat _ _ ?_ ?_ <;> first | omega | exact ⟨rfl, by omega⟩) | (refine L3 (S 115 1).toNat _ _ ?_ ?_ <;> first | omega | exact ⟨rfl, by omega⟩) | grind [qq_in])
  obtain ⟨r, S', hE, e1, e2⟩ := qq_call_of (y := 176) rfl (Nat.le_of_ble_eq_true rfl) h
  rw [e1, e2] at hE
  exact hE
theorem o_count {xs : List Int32} (hxs : xs.length ≤ 2048) (S : qq_S) (a : Int) (ha : qq_in a) (hI : inv S) : qq_op xs 29 106 176 [.inl a] S := by
  have hI0 := hI
  obtain ⟨h1, h2, h3, h4, h5, h6, h7, h8, h9, h10, h11⟩ := hI
  have g1 := h1
  have g5 := h5
  have g6 := h6
  unfold i_net at g1
  unfold i_plan at g5
  unfold i_terms at g6
  have e1 := f106 hxs 0 S a ⟨ha, fun i hi => by have := pl_bd h5 hi; unfold qq_in; omega, fun i hi => by have := pl_bd h5 hi; unfold qq_in; omega⟩
  have e2 := f176 hxs 0 S a ⟨ha, by omega, fun i hi => by have := pl_bd h5 (show i < 10 by omega); have := g5.2.2 i (by omega); unfold qq_in; omega, fun i hi => by have := pl_bd h5 (show i < 10 by omega); have := g5.2.2 i (by omega); unfold qq_in; omega⟩
  have c2 : zz_cnt (S 49) (-1) 10 = zz_cnt (S 123) (-1) (S 4 0).toNat := zz_cnt_eq _ _ _ _ _ (by omega) (fun i hi => by have := pl_bd h5 (show i < 10 by omega); have := g5.2.2 i (by omega); omega) (fun i hi hk => (g5.2.1 i hk).2.2.2 (by omega))
  have c3 : zz_cnt (S 51) 0 10 = zz_cnt (S 124) 0 (S 4 0).toNat := zz_cnt_eq _ _ _ _ _ (by omega) (fun i hi => by have := g5.2.2 i (by omega); omega) (fun i hi hk => (g5.2.1 i hk).2.2.1 ((g5.2.1 i hk).2.2.2 (by omega)))
  have b2 := zz_cnt_bd (S 123) (-1) (S 4 0).toNat
  have b3 := zz_cnt_bd (S 124) 0 (S 4 0).toNat
  rw [c2, c3] at e1
  rw [show S 115 1 = S 4 0 by omega, show S 115 2 = S 4 1 by omega, show S 115 12 = S 48 0 by omega, show S 115 13 = S 48 1 by omega, show S 115 14 = S 52 3 by omega] at e2
  exact qq_op_of e1 e2 (by decide) (by decide) rfl (by unfold qq_in; repeat' split <;> omega) hI0
theorem o_named {xs : List Int32} (hxs : xs.length ≤ 2048) (S : qq_S) (a b : Int) (ha : qq_in a) (hb : qq_in b) (hI : inv S) : qq_op xs 29 103 173 [.inl a, .inl b] S := by
  have hI0 := hI
  obtain ⟨h1, h2, h3, h4, h5, h6, h7, h8, h9, h10, h11⟩ := hI
  have g1 := h1
  have g7 := h7
  unfold i_net at g1
  unfold i_names at g7
  have e1 := f103 hxs 0 S a b ⟨ha, hb, by omega⟩
  have e2 := f173 hxs 0 S a b ⟨ha, hb, by omega⟩
  have k7 := g7.2 a.toNat
  refine qq_op_of e1 e2 (by decide) (by decide) ?_ ?_ hI0
  · by_cases c1 : 0 ≤ a ∧ a < S 4 0
    · by_cases c2 : a < S 115 26
      · rw [if_neg (show ¬ ¬ (0 ≤ a ∧ a < S 115 26) by omega), if_neg (show ¬ ¬ (0 ≤ a ∧ a < S 4 0) by omega)]
        have := k7 (by omega)
        split
        · omega
        · split <;> omega
      · rw [if_pos (show ¬ (0 ≤ a ∧ a < S 115 26) by omega), if_neg (show ¬ ¬ (0 ≤ a ∧ a < S 4 0) by omega)]
        have := k7 (by omega)
        split
        · omega
        · split <;> omega
    · rw [if_pos (show ¬ (0 ≤ a ∧ a < S 115 26) by omega), if_pos (show ¬ (0 ≤ a ∧ a < S 4 0) by omega)]
  · unfold qq_in
    by_cases c1 : 0 ≤ a ∧ a < S 4 0
    · rw [if_neg (by omega)]
      have := k7 (by omega)
      split
      · omega
      · split <;> omega
    · rw [if_pos (by omega)]
      omega
theorem o_of {xs : List Int32} (hxs : xs.length ≤ 2048) (S : qq_S) (a b : Int) (ha : qq_in a) (hb : qq_in b) (hI : inv S) : qq_op xs 29 88 120 [.inl a, .inl b] S := by
  have hI0 := hI
  obtain ⟨h1, h2, h3, h4, h5, h6, h7, h8, h9, h10, h11⟩ := hI
  have g1 := h1
  unfold i_net at g1
  have e1 := f88 hxs 0 S a b ⟨ha, hb, by omega, fun z => by have := h2.1 a.toNat (by omega); omega⟩
  have e2 := f120 hxs 0 S a b ⟨ha, hb, by omega, fun z => by have := h2.1 a.toNat (by omega); omega⟩
  rw [show S 115 2 = S 4 1 by omega] at e2
  by_cases c1 : 0 ≤ a ∧ a < S 4 1
  · have q := h2.1 a.toNat (by omega)
    rw [if_neg (by omega)] at e1 e2
    rw [q.2.2.1] at e2
    by_cases c2 : b = -1
    · rw [if_pos c2] at e1 e2
      exact qq_op_of e1 e2 (by decide) (by decide) rfl (by unfold qq_in; omega) hI0
    · rw [if_neg c2] at e1 e2
      by_cases c3 : 0 ≤ b ∧ b < S 7 a.toNat
      · rw [if_pos c3] at e1 e2
        have q2 := q.2.2.2 b.toNat (by omega)
        have er : qq_R S 9 6 a.toNat b.toNat = S (8 + 1 + a.toNat) b.toNat := by
          unfold qq_R
          rw [if_pos (by omega)]
        rw [er] at q2
        have ei : (10 * a + b).toNat = 10 * a.toNat + b.toNat := by omega
        rw [ei] at e2
        exact qq_op_of e1 e2 (by decide) (by decide) (by omega) (by unfold qq_in; omega) hI0
      · rw [if_neg c3] at e1 e2
        exact qq_op_of e1 e2 (by decide) (by decide) rfl (by unfold qq_in; omega) hI0
  · rw [if_pos (by omega)] at e1 e2
    exact qq_op_of e1 e2 (by decide) (by decide) rfl (by unfold qq_in; omega) hI0
theorem inv_start : inv qq_0 := by
  have r9 : ∀ l i, qq_R qq_0 9 6 l i = 0 := fun l i => by
    unfold qq_R
    split
    · rename_i h
      unfold qq_0
      repeat rw [if_neg (by omega)]
    · rfl
  have r16 : ∀ l i, l < 6 → qq_R qq_0 16 6 l i = -1 := fun l i h => by
    unfold qq_R
    rw [if_pos h]
    unfold qq_0
    rw [if_pos (by omega)]
  have r38 : ∀ l i, l < 10 → qq_R qq_0 38 10 l i = -1 := fun l i h => by
    unfold qq_R
    rw [if_pos h]
    unfold qq_0
    rw [if_pos (by omega)]
  have n0 : qq_0 4 0 = 0 := by decide
  have z7 : ∀ i, qq_0 7 i = 0 := fun i => by simp [qq_0]
  have z25 : ∀ i, qq_0 25 i = 0 := fun i => by simp [qq_0]
  have z114 : ∀ i, qq_0 114 i = 0 := fun i => by simp [qq_0]
  have z132 : ∀ i, qq_0 132 i = 0 := fun i => by simp [qq_0]
  have m49 : ∀ i, qq_0 49 i = -1 := fun i => by simp [qq_0]
  have m50 : ∀ i, qq_0 50 i = -1 := fun i => by simp [qq_0]
  have z51 : ∀ i, qq_0 51 i = 0 := fun i => by simp [qq_0]
  have z95 : ∀ i, qq_0 95 i = 0 := fun i => by simp [qq_0]
  have m96 : ∀ i, qq_0 96 i = -1 := fun i => by simp [qq_0]
  have m97 : ∀ i, qq_0 97 i = -1 := fun i => by simp [qq_0]
  have L0 : qq_0 4 1 = 0 := by decide
  have E0 : qq_0 4 2 = 0 := by decide
  have a1 : qq_0 115 1 = 0 := by decide
  have a2 : qq_0 115 2 = 0 := by decide
  have a3 : qq_0 115 3 = 0 := by decide
  have a26 : qq_0 115 26 = 0 := by decide
  unfold inv
  rw [n0, L0, E0, a1, a2, a3, a26]
  refine ⟨⟨by omega, fun i hi => by omega, fun i j hi => by omega⟩, ⟨fun l hl => by omega, fun l h6 hl => z7 l, fun l s hl hs => Or.inl (r16 l s hl)⟩, ⟨by omega, fun e he => by omega, fun a b ha hb => Or.inl (r38 a b ha), fun e f hef hf => by omega, fun a b ha hb => ⟨fun z => absurd (r38 a b ha) z, fun z => by obtain ⟨l, i, hl, -⟩ := z; omega⟩⟩, fun s hs => ⟨by rw [z25]; omega, fun i hi => by rw [z25] at hi; omega, fun t ht z => absurd (r38 s t hs) z, fun i j hij hj => by rw [z25] at hj; omega⟩, ⟨by decide, fun s hs => ⟨Or.inl ⟨m49 s, m50 s⟩, Or.inl (z51 s), fun _ => z51 s, fun _ => m49 s⟩, fun s hs => by omega⟩, by unfold i_terms; decide, ⟨by omega, fun s hs => ⟨by rw [z95]; omega, by rw [z95]; omega, fun z => by omega, fun _ => z95 s, by rw [m96, m97]; omega, fun z => by omega, fun _ => ⟨m96 s, m97 s⟩⟩⟩, ?_, ?_, ?_, by decide, by unfold qq_in; decide⟩
  · exact ⟨Or.inl (z114 0), by rw [z114, z132], fun z => by rw [z114] at z; omega⟩
  · exact ⟨Or.inl (z114 1), by rw [z114, z132], fun z => by rw [z114] at z; omega⟩
  · exact ⟨Or.inl (z114 2), by rw [z114, z132], fun z => by rw [z114] at z; omega⟩
end
section
/-- the places below i of dx, dy, dh as those of sx, sy, sh -/
def zz_cp (S : qq_S) (dx dy dh sx sy sh : Nat) (i : Int) : qq_S := fun a j => if (j : Int) < i then (if a = dx then S sx j else if a = dy then S sy j else if a = dh then S sh j else S a j) else S a j
theorem zz_cp0 (S : qq_S) (dx dy dh sx sy sh : Nat) : zz_cp S dx dy dh sx sy sh 0 = S := by
  funext a j
  unfold zz_cp
  rw [if_neg (by omega)]
theorem zz_cp_s (S : qq_S) (dx dy dh sx sy sh : Nat) (i : Int) (hi : 0 ≤ i) (h1 : dx ≠ dy) (h2 : dx ≠ dh) (h3 : dy ≠ dh) (k1 : sx ≠ dx) (k2 : sx ≠ dy) (k3 : sx ≠ dh) (k4 : sy ≠ dx) (k5 : sy ≠ dy) (k6 : sy ≠ dh) (k7 : sh ≠ dx) (k8 : sh ≠ dy) (k9 : sh ≠ dh) (T : qq_S) (hT : T = zz_cp S dx dy dh sx sy sh i) :
    qq_u (qq_u (qq_u T dx i.toNat (T sx i.toNat)) dy i.toNat (qq_u T dx i.toNat (T sx i.toNat) sy i.toNat)) dh i.toNat (qq_u (qq_u T dx i.toNat (T sx i.toNat)) dy i.toNat (qq_u T dx i.toNat (T sx i.toNat) sy i.toNat) sh i.toNat) = zz_cp S dx dy dh sx sy sh (i + 1) := by
  subst hT
  have ei : ((i.toNat : Nat) : Int) = i := by omega
  funext a j
  unfold qq_u zz_cp
  have e : (j = i.toNat) ↔ (j : Int) = i := by omega
  have e2 : ((j : Int) < i + 1) ↔ ((j : Int) < i ∨ (j : Int) = i) := by omega
  by_cases hj : (j : Int) = i
  · have hj2 : j = i.toNat := by omega
    subst hj2
    simp only [ei, e2, k1, k2, k3, k4, k5, k6, k7, k8, k9, h1, h2, h3, h1.symm, h2.symm, h3.symm, Int.lt_irrefl, if_false, if_true, or_true, and_true, true_and, and_self, false_and, false_or]
    grind
  · simp only [e, e2, hj, and_false, if_false, or_false]
set_option maxRecDepth 20000 in
theorem f49_48_102 {xs : List Int32} (hxs : xs.length ≤ 2048) (d : Nat) (S : qq_S) (hp : ∀ i : Nat, i < 10 → S 105 i = 0 ∨ S 105 i = 1) : qq_E xs (d + 1) 49 [.inr (48, none), .inr (102, none)] S (none) (zz_cp (qq_u (qq_u S 48 0 (S 102 0)) 48 1 (S 102 1)) 49 50 51 103 104 105 10) := by
  have L : ∀ (k9 : Nat) (i : Int) (T : qq_S), 0 ≤ i ∧ i + k9 = 10 → T = zz_cp (qq_u (qq_u S 48 0 (S 102 0)) 48 1 (S 102 1)) 49 50 51 103 104 105 i → qq_p xs (d + 0) (mm_mr mm_m49) (mm_mk mm_m49) (fun r S' => r = none ∧ S' = zz_cp (qq_u (qq_u S 48 0 (S 102 0)) 48 1 (S 102 1)) 49 50 51 103 104 105 10) 18 [some (.inr (48, none)), some (.inr (102, none)), some (.inl i)] [] (T) := by
    intro k9
    induction k9 with
    | zero =>
      intro i T hm hv
      refine qq_fsound hxs (sp_0_ok hxs (d + 0)) [18] 300 ?_
      repeat' first | apply And.intro | intro _
      all_goals (first | omega | rfl | (refine ih _ _ ?_ ?_ <;> first | omega | exact zz_cp_s _ _ _ _ _ _ _ _ (by omega) (by decide) (by decide) (by decide) (by decide) (by decide) (by decide) (by decide) (by decide) (by decide) (by decide) (by decide) (by decide) T hv) | (have hi10 : i = 10 := (by omega); rw [hv, hi10]) | (have q9 := hp i.toNat (by omega); rw [hv]; simp (decide := true) only [qq_un', zz_cp, if_false, ite_self]; exact q9) | (have q9 := hp i.toNat (by omega); rw [hv]; unfold qq_u zz_cp; grind))
    | succ k9 ih =>
      intro i T hm hv
      refine qq_fsound hxs (sp_0_ok hxs (d + 0)) [18] 300 ?_
      repeat' first | apply And.intro | intro _
      all_goals (first | omega | rfl | (refine ih _ _ ?_ ?_ <;> first | omega | exact zz_cp_s _ _ _ _ _ _ _ _ (by omega) (by decide) (by decide) (by decide) (by decide) (by decide) (by decide) (by decide) (by decide) (by decide) (by decide) (by decide) (by decide) T hv) | (have hi10 : i = 10 := (by omega); rw [hv, hi10]) | (have q9 := hp i.toNat (by omega); rw [hv]; simp (decide := true) only [qq_un', zz_cp, if_false, ite_self]; exact q9) | (have q9 := hp i.toNat (by omega); rw [hv]; unfold qq_u zz_cp; grind))
  have h : qq_p xs (d + 0) (mm_mr mm_m49) (mm_mk mm_m49) (fun r S' => r = none ∧ S' = zz_cp (qq_u (qq_u S 48 0 (S 102 0)) 48 1 (S 102 1)) 49 50 51 103 104 105 10) 0 (qq_ent mm_m49 [.inr (48, none), .inr (102, none)]) [] S := by
    refine qq_fsound hxs (sp_0_ok hxs (d + 0)) [18] 300 ?_
    repeat' first | apply And.intro | intro _ | (simp only [qq_tab])
    all_goals (first | omega | (refine L 10 _ _ ?_ ?_ <;> first | omega | exact (zz_cp0 _ _ _ _ _ _ _).symm) | grind)
  obtain ⟨r, S', hE, e1, e2⟩ := qq_call_of (y := 49) rfl (Nat.le_of_ble_eq_true rfl) h
  rw [e1, e2] at hE
  exact hE
set_option maxRecDepth 20000 in
theorem f49_48_106 {xs : List Int32} (hxs : xs.length ≤ 2048) (d : Nat) (S : qq_S) (hp : ∀ i : Nat, i < 10 → S 109 i = 0 ∨ S 109 i = 1) : qq_E xs (d + 1) 49 [.inr (48, none), .inr (106, none)] S (none) (zz_cp (qq_u (qq_u S 48 0 (S 106 0)) 48 1 (S 106 1)) 49 50 51 107 108 109 10) := by
  have L : ∀ (k9 : Nat) (i : Int) (T : qq_S), 0 ≤ i ∧ i + k9 = 10 → T = zz_cp (qq_u (qq_u S 48 0 (S 106 0)) 48 1 (S 106 1)) 49 50 51 107 108 109 i → qq_p xs (d + 0) (mm_mr mm_m49) (mm_mk mm_m49) (fun r S' => r = none ∧ S' = zz_cp (qq_u (qq_u S 48 0 (S 106 0)) 48 1 (S 106 1)) 49 50 51 107 108 109 10) 18 [some (.inr (48, none)), some (.inr (106, none)), some (.inl i)] [] (T) := by
    intro k9
    induction k9 with
    | zero =>
      intro i T hm hv
      refine qq_fsound hxs (sp_0_ok hxs (d + 0)) [18] 300 ?_
      repeat' first | apply And.intro | intro _
      all_goals (first | omega | rfl | (refine ih _ _ ?_ ?_ <;> first | omega | exact zz_cp_s _ _ _ _ _ _ _ _ (by omega) (by decide) (by decide) (by decide) (by decide) (by decide) (by decide) (by decide) (by decide) (by decide) (by decide) (by decide) (by decide) T hv) | (have hi10 : i = 10 := (by omega); rw [hv, hi10]) | (have q9 := hp i.toNat (by omega); rw [hv]; simp (decide := true) only [qq_un', zz_cp, if_false, ite_self]; exact q9) | (have q9 := hp i.toNat (by omega); rw [hv]; unfold qq_u zz_cp; grind))
    | succ k9 ih =>
      intro i T hm hv
      refine qq_fsound hxs (sp_0_ok hxs (d + 0)) [18] 300 ?_
      repeat' first | apply And.intro | intro _
      all_goals (first | omega | rfl | (refine ih _ _ ?_ ?_ <;> first | omega | exact zz_cp_s _ _ _ _ _ _ _ _ (by omega) (by decide) (by decide) (by decide) (by decide) (by decide) (by decide) (by decide) (by decide) (by decide) (by decide) (by decide) (by decide) T hv) | (have hi10 : i = 10 := (by omega); rw [hv, hi10]) | (have q9 := hp i.toNat (by omega); rw [hv]; simp (decide := true) only [qq_un', zz_cp, if_false, ite_self]; exact q9) | (have q9 := hp i.toNat (by omega); rw [hv]; unfold qq_u zz_cp; grind))
  have h : qq_p xs (d + 0) (mm_mr mm_m49) (mm_mk mm_m49) (fun r S' => r = none ∧ S' = zz_cp (qq_u (qq_u S 48 0 (S 106 0)) 48 1 (S 106 1)) 49 50 51 107 108 109 10) 0 (qq_ent mm_m49 [.inr (48, none), .inr (106, none)]) [] S := by
    refine qq_fsound hxs (sp_0_ok hxs (d + 0)) [18] 300 ?_
    repeat' first | apply And.intro | intro _ | (simp only [qq_tab])
    all_goals (first | omega | (refine L 10 _ _ ?_ ?_ <;> first | omega | exact (zz_cp0 _ _ _ _ _ _ _).symm) | grind)
  obtain ⟨r, S', hE, e1, e2⟩ := qq_call_of (y := 49) rfl (Nat.le_of_ble_eq_true rfl) h
  rw [e1, e2] at hE
  exact hE
set_option maxRecDepth 20000 in
theorem f49_48_110 {xs : List Int32} (hxs : xs.length ≤ 2048) (d : Nat) (S : qq_S) (hp : ∀ i : Nat, i < 10 → S 113 i = 0 ∨ S 113 i = 1) : qq_E xs (d + 1) 49 [.inr (48, none), .inr (110, none)] S (none) (zz_cp (qq_u (qq_u S 48 0 (S 110 0)) 48 1 (S 110 1)) 49 50 51 111 112 113 10) := by
  have L : ∀ (k9 : Nat) (i : Int) (T : qq_S), 0 ≤ i ∧ i + k9 = 10 → T = zz_cp (qq_u (qq_u S 48 0 (S 110 0)) 48 1 (S 110 1)) 49 50 51 111 112 113 i → qq_p xs (d + 0) (mm_mr mm_m49) (mm_mk mm_m49) (fun r S' => r = none ∧ S' = zz_cp (qq_u (qq_u S 48 0 (S 110 0)) 48 1 (S 110 1)) 49 50 51 111 112 113 10) 18 [some (.inr (48, none)), some (.inr (110, none)), some (.inl i)] [] (T) := by
    intro k9
    induction k9 with
    | zero =>
      intro i T hm hv
      refine qq_fsound hxs (sp_0_ok hxs (d + 0)) [18] 300 ?_
      repeat' first | apply And.intro | intro _
      all_goals (first | omega | rfl | (refine ih _ _ ?_ ?_ <;> first | omega | exact zz_cp_s _ _ _ _ _ _ _ _ (by omega) (by decide) (by decide) (by decide) (by decide) (by decide) (by decide) (by decide) (by decide) (by decide) (by decide) (by decide) (by decide) T hv) | (have hi10 : i = 10 := (by omega); rw [hv, hi10]) | (have q9 := hp i.toNat (by omega); rw [hv]; simp (decide := true) only [qq_un', zz_cp, if_false, ite_self]; exact q9) | (have q9 := hp i.toNat (by omega); rw [hv]; unfold qq_u zz_cp; grind))
    | succ k9 ih =>
      intro i T hm hv
      refine qq_fsound hxs (sp_0_ok hxs (d + 0)) [18] 300 ?_
      repeat' first | apply And.intro | intro _
      all_goals (first | omega | rfl | (refine ih _ _ ?_ ?_ <;> first | omega | exact zz_cp_s _ _ _ _ _ _ _ _ (by omega) (by decide) (by decide) (by decide) (by decide) (by decide) (by decide) (by decide) (by decide) (by decide) (by decide) (by decide) (by decide) T hv) | (have hi10 : i = 10 := (by omega); rw [hv, hi10]) | (have q9 := hp i.toNat (by omega); rw [hv]; simp (decide := true) only [qq_un', zz_cp, if_false, ite_self]; exact q9) | (have q9 := hp i.toNat (by omega); rw [hv]; unfold qq_u zz_cp; grind))
  have h : qq_p xs (d + 0) (mm_mr mm_m49) (mm_mk mm_m49) (fun r S' => r = none ∧ S' = zz_cp (qq_u (qq_u S 48 0 (S 110 0)) 48 1 (S 110 1)) 49 50 51 111 112 113 10) 0 (qq_ent mm_m49 [.inr (48, none), .inr (110, none)]) [] S := by
    refine qq_fsound hxs (sp_0_ok hxs (d + 0)) [18] 300 ?_
    repeat' first | apply And.intro | intro _ | (simp only [qq_tab])
    all_goals (first | omega | (refine L 10 _ _ ?_ ?_ <;> first | omega | exact (zz_cp0 _ _ _ _ _ _ _).symm) | grind)
  obtain ⟨r, S', hE, e1, e2⟩ := qq_call_of (y := 49) rfl (Nat.le_of_ble_eq_true rfl) h
  rw [e1, e2] at hE
  exact hE
set_option maxRecDepth 20000 in
theorem f49_102_48 {xs : List Int32} (hxs : xs.length ≤ 2048) (d : Nat) (S : qq_S) (hp : ∀ i : Nat, i < 10 → S 51 i = 0 ∨ S 51 i = 1) : qq_E xs (d + 1) 49 [.inr (102, none), .inr (48, none)] S (none) (zz_cp (qq_u (qq_u S 102 0 (S 48 0)) 102 1 (S 48 1)) 103 104 105 49 50 51 10) := by
  have L : ∀ (k9 : Nat) (i : Int) (T : qq_S), 0 ≤ i ∧ i + k9 = 10 → T = zz_cp (qq_u (qq_u S 102 0 (S 48 0)) 102 1 (S 48 1)) 103 104 105 49 50 51 i → qq_p xs (d + 0) (mm_mr mm_m49) (mm_mk mm_m49) (fun r S' => r = none ∧ S' = zz_cp (qq_u (qq_u S 102 0 (S 48 0)) 102 1 (S 48 1)) 103 104 105 49 50 51 10) 18 [some (.inr (102, none)), some (.inr (48, none)), some (.inl i)] [] (T) := by
    intro k9
    induction k9 with
    | zero =>
      intro i T hm hv
      refine qq_fsound hxs (sp_0_ok hxs (d + 0)) [18] 300 ?_
      repeat' first | apply And.intro | intro _
      all_goals (first | omega | rfl | (refine ih _ _ ?_ ?_ <;> first | omega | exact zz_cp_s _ _ _ _ _ _ _ _ (by omega) (by decide) (by decide) (by decide) (by decide) (by decide) (by decide) (by decide) (by decide) (by decide) (by decide) (by decide) (by decide) T hv) | (have hi10 : i = 10 := (by omega); rw [hv, hi10]) | (have q9 := hp i.toNat (by omega); rw [hv]; simp (decide := true) only [qq_un', zz_cp, if_false, ite_self]; exact q9) | (have q9 := hp i.toNat (by omega); rw [hv]; unfold qq_u zz_cp; grind))
    | succ k9 ih =>
      intro i T hm hv
      refine qq_fsound hxs (sp_0_ok hxs (d + 0)) [18] 300 ?_
      repeat' first | apply And.intro | intro _
      all_goals (first | omega | rfl | (refine ih _ _ ?_ ?_ <;> first | omega | exact zz_cp_s _ _ _ _ _ _ _ _ (by omega) (by decide) (by decide) (by decide) (by decide) (by decide) (by decide) (by decide) (by decide) (by decide) (by decide) (by decide) (by decide) T hv) | (have hi10 : i = 10 := (by omega); rw [hv, hi10]) | (have q9 := hp i.toNat (by omega); rw [hv]; simp (decide := true) only [qq_un', zz_cp, if_false, ite_self]; exact q9) | (have q9 := hp i.toNat (by omega); rw [hv]; unfold qq_u zz_cp; grind))
  have h : qq_p xs (d + 0) (mm_mr mm_m49) (mm_mk mm_m49) (fun r S' => r = none ∧ S' = zz_cp (qq_u (qq_u S 102 0 (S 48 0)) 102 1 (S 48 1)) 103 104 105 49 50 51 10) 0 (qq_ent mm_m49 [.inr (102, none), .inr (48, none)]) [] S := by
    refine qq_fsound hxs (sp_0_ok hxs (d + 0)) [18] 300 ?_
    repeat' first | apply And.intro | intro _ | (simp only [qq_tab])
    all_goals (first | omega | (refine L 10 _ _ ?_ ?_ <;> first | omega | exact (zz_cp0 _ _ _ _ _ _ _).symm) | grind)
  obtain ⟨r, S', hE, e1, e2⟩ := qq_call_of (y := 49) rfl (Nat.le_of_ble_eq_true rfl) h
  rw [e1, e2] at hE
  exact hE
set_option maxRecDepth 20000 in
theorem f49_106_48 {xs : List Int32} (hxs : xs.length ≤ 2048) (d : Nat) (S : qq_S) (hp : ∀ i : Nat, i < 10 → S 51 i = 0 ∨ S 51 i = 1) : qq_E xs (d + 1) 49 [.inr (106, none), .inr (48, none)] S (none) (zz_cp (qq_u (qq_u S 106 0 (S 48 0)) 106 1 (S 48 1)) 107 108 109 49 50 51 10) := by
  have L : ∀ (k9 : Nat) (i : Int) (T : qq_S), 0 ≤ i ∧ i + k9 = 10 → T = zz_cp (qq_u (qq_u S 106 0 (S 48 0)) 106 1 (S 48 1)) 107 108 109 49 50 51 i → qq_p xs (d + 0) (mm_mr mm_m49) (mm_mk mm_m49) (fun r S' => r = none ∧ S' = zz_cp (qq_u (qq_u S 106 0 (S 48 0)) 106 1 (S 48 1)) 107 108 109 49 50 51 10) 18 [some (.inr (106, none)), some (.inr (48, none)), some (.inl i)] [] (T) := by
    intro k9
    induction k9 with
    | zero =>
      intro i T hm hv
      refine qq_fsound hxs (sp_0_ok hxs (d + 0)) [18] 300 ?_
      repeat' first | apply And.intro | intro _
      all_goals (first | omega | rfl | (refine ih _ _ ?_ ?_ <;> first | omega | exact zz_cp_s _ _ _ _ _ _ _ _ (by omega) (by decide) (by decide) (by decide) (by decide) (by decide) (by decide) (by decide) (by decide) (by decide) (by decide) (by decide) (by decide) T hv) | (have hi10 : i = 10 := (by omega); rw [hv, hi10]) | (have q9 := hp i.toNat (by omega); rw [hv]; simp (decide := true) only [qq_un', zz_cp, if_false, ite_self]; exact q9) | (have q9 := hp i.toNat (by omega); rw [hv]; unfold qq_u zz_cp; grind))
    | succ k9 ih =>
      intro i T hm hv
      refine qq_fsound hxs (sp_0_ok hxs (d + 0)) [18] 300 ?_
      repeat' first | apply And.intro | intro _
      all_goals (first | omega | rfl | (refine ih _ _ ?_ ?_ <;> first | omega | exact zz_cp_s _ _ _ _ _ _ _ _ (by omega) (by decide) (by decide) (by decide) (by decide) (by decide) (by decide) (by decide) (by decide) (by decide) (by decide) (by decide) (by decide) T hv) | (have hi10 : i = 10 := (by omega); rw [hv, hi10]) | (have q9 := hp i.toNat (by omega); rw [hv]; simp (decide := true) only [qq_un', zz_cp, if_false, ite_self]; exact q9) | (have q9 := hp i.toNat (by omega); rw [hv]; unfold qq_u zz_cp; grind))
  have h : qq_p xs (d + 0) (mm_mr mm_m49) (mm_mk mm_m49) (fun r S' => r = none ∧ S' = zz_cp (qq_u (qq_u S 106 0 (S 48 0)) 106 1 (S 48 1)) 107 108 109 49 50 51 10) 0 (qq_ent mm_m49 [.inr (106, none), .inr (48, none)]) [] S := by
    refine qq_fsound hxs (sp_0_ok hxs (d + 0)) [18] 300 ?_
    repeat' first | apply And.intro | intro _ | (simp only [qq_tab])
    all_goals (first | omega | (refine L 10 _ _ ?_ ?_ <;> first | omega | exact (zz_cp0 _ _ _ _ _ _ _).symm) | grind)
  obtain ⟨r, S', hE, e1, e2⟩ := qq_call_of (y := 49) rfl (Nat.le_of_ble_eq_true rfl) h
  rw [e1, e2] at hE
  exact hE
set_option maxRecDepth 20000 in
theorem f49_110_48 {xs : List Int32} (hxs : xs.length ≤ 2048) (d : Nat) (S : qq_S) (hp : ∀ i : Nat, i < 10 → S 51 i = 0 ∨ S 51 i = 1) : qq_E xs (d + 1) 49 [.inr (110, none), .inr (48, none)] S (none) (zz_cp (qq_u (qq_u S 110 0 (S 48 0)) 110 1 (S 48 1)) 111 112 113 49 50 51 10) := by
  have L : ∀ (k9 : Nat) (i : Int) (T : qq_S), 0 ≤ i ∧ i + k9 = 10 → T = zz_cp (qq_u (qq_u S 110 0 (S 48 0)) 110 1 (S 48 1)) 111 112 113 49 50 51 i → qq_p xs (d + 0) (mm_mr mm_m49) (mm_mk mm_m49) (fun r S' => r = none ∧ S' = zz_cp (qq_u (qq_u S 110 0 (S 48 0)) 110 1 (S 48 1)) 111 112 113 49 50 51 10) 18 [some (.inr (110, none)), some (.inr (48, none)), some (.inl i)] [] (T) := by
    intro k9
    induction k9 with
    | zero =>
      intro i T hm hv
      refine qq_fsound hxs (sp_0_ok hxs (d + 0)) [18] 300 ?_
      repeat' first | apply And.intro | intro _
      all_goals (first | omega | rfl | (refine ih _ _ ?_ ?_ <;> first | omega | exact zz_cp_s _ _ _ _ _ _ _ _ (by omega) (by decide) (by decide) (by decide) (by decide) (by decide) (by decide) (by decide) (by decide) (by decide) (by decide) (by decide) (by decide) T hv) | (have hi10 : i = 10 := (by omega); rw [hv, hi10]) | (have q9 := hp i.toNat (by omega); rw [hv]; simp (decide := true) only [qq_un', zz_cp, if_false, ite_self]; exact q9) | (have q9 := hp i.toNat (by omega); rw [hv]; unfold qq_u zz_cp; grind))
    | succ k9 ih =>
      intro i T hm hv
      refine qq_fsound hxs (sp_0_ok hxs (d + 0)) [18] 300 ?_
      repeat' first | apply And.intro | intro _
      all_goals (first | omega | rfl | (refine ih _ _ ?_ ?_ <;> first | omega | exact zz_cp_s _ _ _ _ _ _ _ _ (by omega) (by decide) (by decide) (by decide) (by decide) (by decide) (by decide) (by decide) (by decide) (by decide) (by decide) (by decide) (by decide) T hv) | (have hi10 : i = 10 := (by omega); rw [hv, hi10]) | (have q9 := hp i.toNat (by omega); rw [hv]; simp (decide := true) only [qq_un', zz_cp, if_false, ite_self]; exact q9) | (have q9 := hp i.toNat (by omega); rw [hv]; unfold qq_u zz_cp; grind))
  have h : qq_p xs (d + 0) (mm_mr mm_m49) (mm_mk mm_m49) (fun r S' => r = none ∧ S' = zz_cp (qq_u (qq_u S 110 0 (S 48 0)) 110 1 (S 48 1)) 111 112 113 49 50 51 10) 0 (qq_ent mm_m49 [.inr (110, none), .inr (48, none)]) [] S := by
    refine qq_fsound hxs (sp_0_ok hxs (d + 0)) [18] 300 ?_
    repeat' first | apply And.intro | intro _ | (simp only [qq_tab])
    all_goals (first | omega | (refine L 10 _ _ ?_ ?_ <;> first | omega | exact (zz_cp0 _ _ _ _ _ _ _).symm) | grind)
  obtain ⟨r, S', hE, e1, e2⟩ := qq_call_of (y := 49) rfl (Nat.le_of_ble_eq_true rfl) h
  rw [e1, e2] at hE
  exact hE
def sp_7 : qq_P := fun y as S => match y, as with
  | 110, [.inl a, .inl lo, .inl hi] => some (qq_in a ∧ qq_in lo ∧ qq_in hi, some (zz_b (lo ≤ a ∧ a ≤ hi)), S)
  | 114, [.inl a, .inl lo, .inl hi] => some (qq_in a ∧ qq_in lo ∧ qq_in hi, some (zz_b (lo ≤ a ∧ a ≤ hi)), S)
  | 108, [.inr (3, none), .inl a] => some (True, some (a), qq_u S 3 9 a)
  | 109, [.inr (3, none), .inl a] => some (True, some (a), qq_u S 3 9 0)
  | 115, [.inr (115, none), .inl a] => some (qq_in a, some (a), qq_u S 115 0 (if a < 0 then a else 0))
  | 31, [.inr (4, none), .inl a] => some (qq_in a ∧ qq_in (S 4 0), some (zz_b (0 ≤ a ∧ a < S 4 0)), S)
  | 32, [.inr (4, none), .inl a] => some (qq_in a ∧ qq_in (S 4 1), some (zz_b (0 ≤ a ∧ a < S 4 1)), S)
  | 107, [.inr (3, none)] => some (True, some (S 3 9), S)
  | 177, [.inr (115, none)] => some (True, some (S 115 0), S)
  | 45, [.inr (48, none)] => some (True, some (S 48 0 * S 48 1), S)
  | 46, [.inr (48, none), .inl a] => some (0 ≤ a ∧ a < 10 ∧ qq_in (S 49 a.toNat), some (zz_b (¬ S 49 a.toNat = -1)), S)
  | 52, [.inr (48, none), .inl a, .inl b] => some (0 ≤ a ∧ a < 10 ∧ 0 ≤ b ∧ b < 10 ∧ (-8 ≤ S 49 a.toNat ∧ S 49 a.toNat ≤ 8 ∧ -8 ≤ S 49 b.toNat ∧ S 49 b.toNat ≤ 8 ∧ -8 ≤ S 50 a.toNat ∧ S 50 a.toNat ≤ 8 ∧ -8 ≤ S 50 b.toNat ∧ S 50 b.toNat ≤ 8), some (zz_dir (S 49 b.toNat - S 49 a.toNat) (S 50 b.toNat - S 50 a.toNat)), S)
  | 45, [.inr (56, none)] => some (True, some (S 56 0 * S 56 1), S)
  | 46, [.inr (56, none), .inl a] => some (0 ≤ a ∧ a < 10 ∧ qq_in (S 57 a.toNat), some (zz_b (¬ S 57 a.toNat = -1)), S)
  | 52, [.inr (56, none), .inl a, .inl b] => some (0 ≤ a ∧ a < 10 ∧ 0 ≤ b ∧ b < 10 ∧ (-8 ≤ S 57 a.toNat ∧ S 57 a.toNat ≤ 8 ∧ -8 ≤ S 57 b.toNat ∧ S 57 b.toNat ≤ 8 ∧ -8 ≤ S 58 a.toNat ∧ S 58 a.toNat ≤ 8 ∧ -8 ≤ S 58 b.toNat ∧ S 58 b.toNat ≤ 8), some (zz_dir (S 57 b.toNat - S 57 a.toNat) (S 58 b.toNat - S 58 a.toNat)), S)
  | 64, [.inl a, .inl b] => some (-100 ≤ a ∧ a ≤ 100 ∧ -100 ≤ b ∧ b ≤ 100, some (if 4 < qq_and (a - b) 7 then 8 - qq_and (a - b) 7 else qq_and (a - b) 7), S)
  | 111, [.inl a] => some (qq_in a, some (zz_b (0 ≤ a ∧ a ≤ 100)), S)
  | 116, [.inr (115, none), .inl a] => some (qq_in a ∧ 0 ≤ S 115 1 ∧ S 115 1 ≤ 10, some (zz_b (0 ≤ a ∧ a < S 115 1)), S)
  | 92, [.inr (3, none), .inl a] => some (qq_in a, some (if 1 ≤ a ∧ a ≤ 4 then S 52 3 else -1), if 1 ≤ a ∧ a ≤ 4 then qq_u (qq_u S 52 3 a) 3 9 0 else qq_u S 3 9 (-1))
  | 132, [.inr (115, none), .inl a] => some (qq_in a ∧ 0 ≤ S 115 14 ∧ S 115 14 ≤ 4, some (if 1 ≤ a ∧ a ≤ 4 then S 115 14 else -1), if 1 ≤ a ∧ a ≤ 4 then qq_u (qq_u S 115 14 a) 115 0 0 else qq_u S 115 0 (-1))
  | 93, [.inr (3, none), .inl a, .inl b, .inl c] => some (qq_in a ∧ qq_in b ∧ qq_in c, some (if 0 ≤ a ∧ a ≤ 100 ∧ 0 ≤ b ∧ b ≤ 100 ∧ 0 ≤ c ∧ c ≤ 100 then 0 else -1), if 0 ≤ a ∧ a ≤ 100 ∧ 0 ≤ b ∧ b ≤ 100 ∧ 0 ≤ c ∧ c ≤ 100 then qq_u (qq_u (qq_u (qq_u S 52 0 a) 52 1 b) 52 2 c) 3 9 0 else qq_u S 3 9 (-1))
  | 133, [.inr (115, none), .inl a, .inl b, .inl c] => some (qq_in a ∧ qq_in b ∧ qq_in c, some (if 0 ≤ a ∧ a ≤ 100 ∧ 0 ≤ b ∧ b ≤ 100 ∧ 0 ≤ c ∧ c ≤ 100 then 0 else -1), if 0 ≤ a ∧ a ≤ 100 ∧ 0 ≤ b ∧ b ≤ 100 ∧ 0 ≤ c ∧ c ≤ 100 then qq_u (qq_u (qq_u (qq_u S 115 15 a) 115 16 b) 115 17 c) 115 0 0 else qq_u S 115 0 (-1))
  | 47, [.inr (48, none), .inl a] => some (0 ≤ a ∧ a < 10 ∧ qq_in (S 49 a.toNat), some (if S 49 a.toNat = -1 then -1 else S 50 a.toNat * S 48 0 + S 49 a.toNat), S)
  | 48, [.inr (48, none), .inl a, .inl p] => some (0 ≤ a ∧ a < 10 ∧ qq_in p ∧ 0 ≤ S 48 0 ∧ S 48 0 ≤ 8, none, if p < 0 ∨ S 48 0 < 1 then qq_u (qq_u S 49 a.toNat (-1)) 50 a.toNat (-1) else qq_u (qq_u S 49 a.toNat (p % S 48 0)) 50 a.toNat (p / S 48 0))
  | 47, [.inr (56, none), .inl a] => some (0 ≤ a ∧ a < 10 ∧ qq_in (S 57 a.toNat), some (if S 57 a.toNat = -1 then -1 else S 58 a.toNat * S 56 0 + S 57 a.toNat), S)
  | 48, [.inr (56, none), .inl a, .inl p] => some (0 ≤ a ∧ a < 10 ∧ qq_in p ∧ 0 ≤ S 56 0 ∧ S 56 0 ≤ 8, none, if p < 0 ∨ S 56 0 < 1 then qq_u (qq_u S 57 a.toNat (-1)) 58 a.toNat (-1) else qq_u (qq_u S 57 a.toNat (p % S 56 0)) 58 a.toNat (p / S 56 0))
  | 35, [.inr (4, none)] => some (True, some (S 4 1), qq_u S 4 1 (S 4 1 + 1))
  | 50, [.inr (48, none)] => some (∀ i : Nat, i < 10 → qq_in (S 49 i), some (zz_cnt (S 49) (-1) 10), S)
  | 51, [.inr (48, none)] => some (∀ i : Nat, i < 10 → qq_in (S 51 i), some (zz_cnt (S 51) 0 10), S)
  | 44, [.inr (48, none), .inl w, .inl h] => some (True, none, zz_rs (qq_u (qq_u S 48 0 w) 48 1 h) 49 50 51 10)
  | 44, [.inr (56, none), .inl w, .inl h] => some (True, none, zz_rs (qq_u (qq_u S 56 0 w) 56 1 h) 57 58 59 10)
  | 33, [.inr (4, none), .inl a, .inl b] => some (qq_in a ∧ qq_in b ∧ (0 ≤ S 4 0 ∧ S 4 0 ≤ 10) ∧ (∀ i : Nat, (i : Int) < S 4 0 → qq_in (S 5 i) ∧ qq_in (S 6 i)), some (zz_b (zz_has (S 5) (S 6) a b (S 4 0).toNat = true)), S)
  | 34, [.inr (4, none), .inl a, .inl b] => some (0 ≤ S 4 0 ∧ S 4 0 < 10, some (S 4 0), qq_u (qq_u (qq_u S 5 (S 4 0).toNat a) 6 (S 4 0).toNat b) 4 0 (S 4 0 + 1))
  | 49, [.inr (48, none), .inr (102, none)] => some (∀ i : Nat, i < 10 → S 105 i = 0 ∨ S 105 i = 1, none, zz_cp (qq_u (qq_u S 48 0 (S 102 0)) 48 1 (S 102 1)) 49 50 51 103 104 105 10)
  | 49, [.inr (48, none), .inr (106, none)] => some (∀ i : Nat, i < 10 → S 109 i = 0 ∨ S 109 i = 1, none, zz_cp (qq_u (qq_u S 48 0 (S 106 0)) 48 1 (S 106 1)) 49 50 51 107 108 109 10)
  | 49, [.inr (48, none), .inr (110, none)] => some (∀ i : Nat, i < 10 → S 113 i = 0 ∨ S 113 i = 1, none, zz_cp (qq_u (qq_u S 48 0 (S 110 0)) 48 1 (S 110 1)) 49 50 51 111 112 113 10)
  | 49, [.inr (102, none), .inr (48, none)] => some (∀ i : Nat, i < 10 → S 51 i = 0 ∨ S 51 i = 1, none, zz_cp (qq_u (qq_u S 102 0 (S 48 0)) 102 1 (S 48 1)) 103 104 105 49 50 51 10)
  | 49, [.inr (106, none), .inr (48, none)] => some (∀ i : Nat, i < 10 → S 51 i = 0 ∨ S 51 i = 1, none, zz_cp (qq_u (qq_u S 106 0 (S 48 0)) 106 1 (S 48 1)) 107 108 109 49 50 51 10)
  | 49, [.inr (110, none), .inr (48, none)] => some (∀ i : Nat, i < 10 → S 51 i = 0 ∨ S 51 i = 1, none, zz_cp (qq_u (qq_u S 110 0 (S 48 0)) 110 1 (S 48 1)) 111 112 113 49 50 51 10)
  | _, _ => none
theorem sp_7_ok {xs : List Int32} (hxs : xs.length ≤ 2048) (d : Nat) : qq_ok xs (d + 3) sp_7 := by
  intro y as S pre r S2 h hp
  unfold sp_7 at h
  split at h
  · cases h; exact f110 hxs (d + 2) S _ _ _ hp
  · cases h; exact f114 hxs (d + 2) S _ _ _ hp
  · cases h; exact f108 hxs (d + 2) S _ hp
  · cases h; exact f109 hxs (d + 2) S _ hp
  · cases h; exact f115 hxs (d + 2) S _ hp
  · cases h; exact f31 hxs (d + 2) S _ hp
  · cases h; exact f32 hxs (d + 2) S _ hp
  · cases h; exact f107 hxs (d + 2) S hp
  · cases h; exact f177 hxs (d + 2) S hp
  · cases h; exact f45_48 hxs (d + 2) S hp
  · cases h; exact f46_48 hxs (d + 2) S _ hp
  · cases h; exact f52_48 hxs (d + 2) S _ _ hp
  · cases h; exact f45_56 hxs (d + 2) S hp
  · cases h; exact f46_56 hxs (d + 2) S _ hp
  · cases h; exact f52_56 hxs (d + 2) S _ _ hp
  · cases h; exact f64 hxs (d + 2) S _ _ hp
  · cases h; exact f111 hxs (d + 1) S _ hp
  · cases h; exact f116 hxs (d + 1) S _ hp
  · cases h; exact f92 hxs (d + 1) S _ hp
  · cases h; exact f132 hxs (d + 1) S _ hp
  · cases h; exact f93 hxs (d + 0) S _ _ _ hp
  · cases h; exact f133 hxs (d + 1) S _ _ _ hp
  · cases h; exact f47_48 hxs (d + 1) S _ hp
  · cases h; exact f48_48 hxs (d + 2) S _ _ hp
  · cases h; exact f47_56 hxs (d + 1) S _ hp
  · cases h; exact f48_56 hxs (d + 2) S _ _ hp
  · cases h; exact f35 hxs (d + 2) S hp
  · cases h; exact f50 hxs (d + 1) S hp
  · cases h; exact f51 hxs (d + 1) S hp
  · cases h; exact f44_48 hxs (d + 2) S _ _ hp
  · cases h; exact f44_56 hxs (d + 2) S _ _ hp
  · cases h; exact f33 hxs (d + 2) S _ _ hp
  · cases h; exact f34 hxs (d + 2) S _ _ hp
  · cases h; exact f49_48_102 hxs (d + 2) S hp
  · cases h; exact f49_48_106 hxs (d + 2) S hp
  · cases h; exact f49_48_110 hxs (d + 2) S hp
  · cases h; exact f49_102_48 hxs (d + 2) S hp
  · cases h; exact f49_106_48 hxs (d + 2) S hp
  · cases h; exact f49_110_48 hxs (d + 2) S hp
  · cases h
set_option maxRecDepth 20000 in
theorem f104 {xs : List Int32} (hxs : xs.length ≤ 2048) (d : Nat) (S : qq_S) (a : Int) (hp : qq_in a ∧ (∀ i : Nat, i < 10 → S 51 i = 0 ∨ S 51 i = 1)) : qq_E xs (d + 4) 104 [.inr (3, none), .inl a] S (some (if 0 ≤ a ∧ a ≤ 2 then 0 else -1)) (if 0 ≤ a ∧ a ≤ 2 then (if a = 0 then qq_u (qq_u (zz_cp (qq_u (qq_u S 102 0 (S 48 0)) 102 1 (S 48 1)) 103 104 105 49 50 51 10) 114 a.toNat 1) 3 9 0 else if a = 1 then qq_u (qq_u (zz_cp (qq_u (qq_u S 106 0 (S 48 0)) 106 1 (S 48 1)) 107 108 109 49 50 51 10) 114 a.toNat 1) 3 9 0 else qq_u (qq_u (zz_cp (qq_u (qq_u S 110 0 (S 48 0)) 110 1 (S 48 1)) 111 112 113 49 50 51 10) 114 a.toNat 1) 3 9 0) else qq_u S 3 9 (-1)) := by
  have h : qq_p xs (d + 3) (mm_mr mm_m104) (mm_mk mm_m104) (fun r S' => r = some (if 0 ≤ a ∧ a ≤ 2 then 0 else -1) ∧ S' = if 0 ≤ a ∧ a ≤ 2 then (if a = 0 then qq_u (qq_u (zz_cp (qq_u (qq_u S 102 0 (S 48 0)) 102 1 (S 48 1)) 103 104 105 49 50 51 10) 114 a.toNat 1) 3 9 0 else if a = 1 then qq_u (qq_u (zz_cp (qq_u (qq_u S 106 0 (S 48 0)) 106 1 (S 48 1)) 107 108 109 49 50 51 10) 114 a.toNat 1) 3 9 0 else qq_u (qq_u (zz_cp (qq_u (qq_u S 110 0 (S 48 0)) 110 1 (S 48 1)) 111 112 113 49 50 51 10) 114 a.toNat 1) 3 9 0) else qq_u S 3 9 (-1)) 0 (qq_ent mm_m104 [.inr (3, none), .inl a]) [] S := by
    refine qq_fsound hxs (sp_7_ok hxs (d + 0)) [] 200 ?_
    repeat' first | apply And.intro | intro _ | (simp only [qq_tab]) | (simp only [qq_pl])
    all_goals (first | rfl | omega | exact hp.2 | grind [qq_in, zz_b])
  obtain ⟨r, S', hE, e1, e2⟩ := qq_call_of (y := 104) rfl (Nat.le_of_ble_eq_true rfl) h
  rw [e1, e2] at hE
  exact hE
set_option maxRecDepth 20000 in
theorem f105 {xs : List Int32} (hxs : xs.length ≤ 2048) (d : Nat) (S : qq_S) (a : Int) (hp : qq_in a ∧ (0 ≤ a ∧ a ≤ 2 → (S 114 a.toNat = 0 ∨ S 114 a.toNat = 1)) ∧ (a = 0 → ¬ S 114 a.toNat = 0 → (∀ i : Nat, i < 10 → S 105 i = 0 ∨ S 105 i = 1)) ∧ (a = 1 → ¬ S 114 a.toNat = 0 → (∀ i : Nat, i < 10 → S 109 i = 0 ∨ S 109 i = 1)) ∧ (a = 2 → ¬ S 114 a.toNat = 0 → (∀ i : Nat, i < 10 → S 113 i = 0 ∨ S 113 i = 1))) : qq_E xs (d + 4) 105 [.inr (3, none), .inl a] S (some (if 0 ≤ a ∧ a ≤ 2 then (if S 114 a.toNat = 0 then -6 else 0) else -1)) (if 0 ≤ a ∧ a ≤ 2 then (if S 114 a.toNat = 0 then qq_u S 3 9 (-6) else if a = 0 then qq_u (zz_cp (qq_u (qq_u S 48 0 (S 102 0)) 48 1 (S 102 1)) 49 50 51 103 104 105 10) 3 9 0 else if a = 1 then qq_u (zz_cp (qq_u (qq_u S 48 0 (S 106 0)) 48 1 (S 106 1)) 49 50 51 107 108 109 10) 3 9 0 else qq_u (zz_cp (qq_u (qq_u S 48 0 (S 110 0)) 48 1 (S 110 1)) 49 50 51 111 112 113 10) 3 9 0) else qq_u S 3 9 (-1)) := by
  have h : qq_p xs (d + 3) (mm_mr mm_m105) (mm_mk mm_m105) (fun r S' => r = some (if 0 ≤ a ∧ a ≤ 2 then (if S 114 a.toNat = 0 then -6 else 0) else -1) ∧ S' = if 0 ≤ a ∧ a ≤ 2 then (if S 114 a.toNat = 0 then qq_u S 3 9 (-6) else if a = 0 then qq_u (zz_cp (qq_u (qq_u S 48 0 (S 102 0)) 48 1 (S 102 1)) 49 50 51 103 104 105 10) 3 9 0 else if a = 1 then qq_u (zz_cp (qq_u (qq_u S 48 0 (S 106 0)) 48 1 (S 106 1)) 49 50 51 107 108 109 10) 3 9 0 else qq_u (zz_cp (qq_u (qq_u S 48 0 (S 110 0)) 48 1 (S 110 1)) 49 50 51 111 112 113 10) 3 9 0) else qq_u S 3 9 (-1)) 0 (qq_ent mm_m105 [.inr (3, none), .inl a]) [] S := by
    refine qq_fsound hxs (sp_7_ok hxs (d + 0)) [] 200 ?_
    repeat' first | apply And.intro | intro _ | (simp only [qq_tab]) | (simp only [qq_pl])
    all_goals (first | rfl | omega | (apply hp.2.2.1 <;> first | assumption | omega | grind [zz_b]) | (apply hp.2.2.2.1 <;> first | assumption | omega | grind [zz_b]) | (apply hp.2.2.2.2 <;> first | assumption | omega | grind [zz_b]) | grind [qq_in, zz_b])
  obtain ⟨r, S', hE, e1, e2⟩ := qq_call_of (y := 105) rfl (Nat.le_of_ble_eq_true rfl) h
  rw [e1, e2] at hE
  exact hE
end
section
def zz_v1 (S : qq_S) (t : Int) : Int := if t < S 115 1 then S 123 t.toNat else -1
def zz_v2 (S : qq_S) (t : Int) : Int := if t < S 115 1 ∧ ¬ S 124 t.toNat = 0 then 1 else 0
/-- an image as far as i -/
def zz_im (S : qq_S) (a i : Int) : qq_S := fun c j => if c = 133 ∧ 23 * a ≤ j ∧ (j : Int) < 23 * a + i then zz_v1 S (j - 23 * a) else if c = 133 ∧ 23 * a + 10 ≤ j ∧ (j : Int) < 23 * a + 10 + i then zz_v2 S (j - (23 * a + 10)) else S c j
theorem zz_im0 (S : qq_S) (a : Int) : zz_im S a 0 = S := by
  funext c j
  unfold zz_im
  rw [if_neg (by omega), if_neg (by omega)]
theorem zz_im_ne {S : qq_S} {a i : Int} {c : Nat} (h : c ≠ 133) : zz_im S a i c = S c := by
  funext j
  unfold zz_im
  rw [if_neg (fun z => h z.1), if_neg (fun z => h z.1)]
theorem zz_im_s (S : qq_S) (a i v1 v2 : Int) (ha : 0 ≤ a) (hi : 0 ≤ i ∧ i < 10) (h1 : v1 = zz_v1 S i) (h2 : v2 = zz_v2 S i) : qq_u (qq_u (zz_im S a i) 133 (23 * a + i).toNat v1) 133 (23 * a + 10 + i).toNat v2 = zz_im S a (i + 1) := by
  funext c j
  by_cases hc : c = 133
  · subst hc
    unfold qq_u zz_im
    simp only [true_and]
    by_cases e2 : j = (23 * a + 10 + i).toNat
    · rw [if_pos e2, if_neg (by omega), if_pos (by omega), h2]
      congr 1
      omega
    · rw [if_neg e2]
      by_cases e1 : j = (23 * a + i).toNat
      · rw [if_pos e1, if_pos (by omega), h1]
        congr 1
        omega
      · rw [if_neg e1]
        by_cases c1 : 23 * a ≤ j ∧ (j : Int) < 23 * a + i
        · rw [if_pos c1, if_pos (by omega)]
        · rw [if_neg c1]
          rw [if_neg (show ¬ (23 * a ≤ (j : Int) ∧ (j : Int) < 23 * a + (i + 1)) by omega)]
          by_cases c2 : 23 * a + 10 ≤ j ∧ (j : Int) < 23 * a + 10 + i
          · rw [if_pos c2, if_pos (by omega)]
          · rw [if_neg c2, if_neg (by omega)]
  · rw [qq_un' hc, qq_un' hc, zz_im_ne hc, zz_im_ne hc]
/-- the points of an image, given back as far as i -/
def zz_bk (S : qq_S) (a i : Int) : qq_S := fun c j => if c = 123 ∧ (j : Int) < i then S 133 (23 * a + j).toNat else if c = 124 ∧ (j : Int) < i then (if S 133 (23 * a + 10 + j).toNat = 1 then 1 else 0) else S c j
theorem zz_bk0 (S : qq_S) (a : Int) : zz_bk S a 0 = S := by
  funext c j
  unfold zz_bk
  rw [if_neg (by omega), if_neg (by omega)]
theorem zz_bk_ne {S : qq_S} {a i : Int} {c : Nat} (h : c ≠ 123) (h' : c ≠ 124) : zz_bk S a i c = S c := by
  funext j
  unfold zz_bk
  rw [if_neg (fun z => h z.1), if_neg (fun z => h' z.1)]
theorem zz_bk_s (S : qq_S) (a i v1 v2 : Int) (hi : 0 ≤ i) (h1 : v1 = S 133 (23 * a + i).toNat) (h2 : v2 = if S 133 (23 * a + 10 + i).toNat = 1 then 1 else 0) : qq_u (qq_u (zz_bk S a i) 123 i.toNat v1) 124 i.toNat v2 = zz_bk S a (i + 1) := by
  have ei : ((i.toNat : Nat) : Int) = i := by omega
  funext c j
  by_cases hj : j = i.toNat
  · subst hj
    unfold qq_u zz_bk
    by_cases c1 : c = 124
    · subst c1
      rw [if_pos ⟨rfl, rfl⟩, if_neg (by omega), if_pos ⟨rfl, by omega⟩, h2, ei]
    · rw [if_neg (fun z => c1 z.1)]
      by_cases c2 : c = 123
      · subst c2
        rw [if_pos ⟨rfl, rfl⟩, if_pos ⟨rfl, by omega⟩, h1, ei]
      · rw [if_neg (fun z => c2 z.1), if_neg (fun z => c2 z.1), if_neg (fun z => c1 z.1), if_neg (fun z => c2 z.1), if_neg (fun z => c1 z.1)]
  · rw [qq_un (Or.inr hj), qq_un (Or.inr hj)]
    unfold zz_bk
    have e : ((j : Int) < i + 1) ↔ (j : Int) < i := by omega
    simp only [e]
set_option maxRecDepth 20000 in
theorem f174 {xs : List Int32} (hxs : xs.length ≤ 2048) (d : Nat) (S : qq_S) (a : Int) (hp : qq_in a ∧ (0 ≤ S 115 1 ∧ S 115 1 ≤ 10) ∧ (∀ i : Nat, (i : Int) < S 115 1 → S 124 i = 0 ∨ S 124 i = 1)) : qq_E xs (d + 4) 174 [.inr (115, none), .inl a] S (some (if 0 ≤ a ∧ a ≤ 2 then 0 else -1)) (if 0 ≤ a ∧ a ≤ 2 then qq_u (qq_u (qq_u (zz_im (qq_u S 132 a.toNat 1) a 10) 133 (23 * a + 20).toNat (S 115 12)) 133 (23 * a + 21).toNat (S 115 13)) 115 0 0 else qq_u S 115 0 (-1)) := by
  have L : ∀ (k9 : Nat) (i : Int) (T : qq_S), 0 ≤ i ∧ i + k9 = 10 → (T = zz_im (qq_u S 132 a.toNat 1) a i ∧ 0 ≤ a ∧ a ≤ 2) → qq_p xs (d + 3) (mm_mr mm_m174) (mm_mk mm_m174) (fun r S' => r = some (if 0 ≤ a ∧ a ≤ 2 then 0 else -1) ∧ S' = if 0 ≤ a ∧ a ≤ 2 then qq_u (qq_u (qq_u (zz_im (qq_u S 132 a.toNat 1) a 10) 133 (23 * a + 20).toNat (S 115 12)) 133 (23 * a + 21).toNat (S 115 13)) 115 0 0 else qq_u S 115 0 (-1)) 24 [some (.inr (115, none)), some (.inl a), some (.inl i)] [] (T) := by
    intro k9
    induction k9 with
    | zero =>
      intro i T hm hv
      refine qq_fsound hxs (sp_7_ok hxs (d + 0)) [24] 300 ?_
      repeat' first | apply And.intro | intro _
      all_goals (first | omega | (refine ih _ _ ?_ ?_ <;> first | omega | (refine ⟨?_, hv.2⟩; rw [hv.1] at *; refine zz_im_s _ _ _ _ _ (by omega) (by omega) ?_ ?_ <;> simp (decide := true) only [zz_v1, zz_v2, zz_im_ne, qq_un', qq_ueq] at * <;> grind)) | (have hi10 : i = 10 := (by omega); rw [if_pos hv.2]; try (rw [hv.1, hi10]; simp (decide := true) only [zz_im_ne, qq_un', qq_ueq, ite_self])) | (rw [hv.1] at *; simp (decide := true) only [zz_im_ne, qq_un', qq_ueq] at *; have q9 := hp.2.2 i.toNat (by omega); omega) | (rw [hv.1] at *; simp (decide := true) only [zz_im_ne, qq_un', qq_ueq] at *; omega))
    | succ k9 ih =>
      intro i T hm hv
      refine qq_fsound hxs (sp_7_ok hxs (d + 0)) [24] 300 ?_
      repeat' first | apply And.intro | intro _
      all_goals (first | omega | (refine ih _ _ ?_ ?_ <;> first | omega | (refine ⟨?_, hv.2⟩; rw [hv.1] at *; refine zz_im_s _ _ _ _ _ (by omega) (by omega) ?_ ?_ <;> simp (decide := true) only [zz_v1, zz_v2, zz_im_ne, qq_un', qq_ueq] at * <;> grind)) | (have hi10 : i = 10 := (by omega); rw [if_pos hv.2]; try (rw [hv.1, hi10]; simp (decide := true) only [zz_im_ne, qq_un', qq_ueq, ite_self])) | (rw [hv.1] at *; simp (decide := true) only [zz_im_ne, qq_un', qq_ueq] at *; have q9 := hp.2.2 i.toNat (by omega); omega) | (rw [hv.1] at *; simp (decide := true) only [zz_im_ne, qq_un', qq_ueq] at *; omega))
  have h : qq_p xs (d + 3) (mm_mr mm_m174) (mm_mk mm_m174) (fun r S' => r = some (if 0 ≤ a ∧ a ≤ 2 then 0 else -1) ∧ S' = if 0 ≤ a ∧ a ≤ 2 then qq_u (qq_u (qq_u (zz_im (qq_u S 132 a.toNat 1) a 10) 133 (23 * a + 20).toNat (S 115 12)) 133 (23 * a + 21).toNat (S 115 13)) 115 0 0 else qq_u S 115 0 (-1)) 0 (qq_ent mm_m174 [.inr (115, none), .inl a]) [] S := by
    refine qq_fsound hxs (sp_7_ok hxs (d + 0)) [24] 300 ?_
    repeat' first | apply And.intro | intro _ | (simp only [qq_tab])
    all_goals (first | omega | (refine L 10 _ _ ?_ ?_ <;> first | omega | exact ⟨(zz_im0 _ _).symm, by grind [zz_b]⟩) | grind [qq_in, zz_b])
  obtain ⟨r, S', hE, e1, e2⟩ := qq_call_of (y := 174) rfl (Nat.le_of_ble_eq_true rfl) h
  rw [e1, e2] at hE
  exact hE
set_option maxRecDepth 20000 in
theorem f175 {xs : List Int32} (hxs : xs.length ≤ 2048) (d : Nat) (S : qq_S) (a : Int) (hp : qq_in a ∧ (0 ≤ a ∧ a ≤ 2 → S 132 a.toNat = 0 ∨ S 132 a.toNat = 1) ∧ (0 ≤ a ∧ a ≤ 2 → ¬ S 132 a.toNat = 0 → ∀ i : Int, 0 ≤ i → i < 10 → qq_in (S 133 (23 * a + 10 + i).toNat))) : qq_E xs (d + 4) 175 [.inr (115, none), .inl a] S (some (if 0 ≤ a ∧ a ≤ 2 then (if S 132 a.toNat = 0 then -6 else 0) else -1)) (if 0 ≤ a ∧ a ≤ 2 then (if S 132 a.toNat = 0 then qq_u S 115 0 (-6) else qq_u (qq_u (qq_u (zz_bk S a 10) 115 12 (S 133 (23 * a + 20).toNat)) 115 13 (S 133 (23 * a + 21).toNat)) 115 0 0) else qq_u S 115 0 (-1)) := by
  have L : ∀ (k9 : Nat) (i : Int) (T : qq_S), 0 ≤ i ∧ i + k9 = 10 → (T = zz_bk S a i ∧ (0 ≤ a ∧ a ≤ 2) ∧ ¬ S 132 a.toNat = 0) → qq_p xs (d + 3) (mm_mr mm_m175) (mm_mk mm_m175) (fun r S' => r = some (if 0 ≤ a ∧ a ≤ 2 then (if S 132 a.toNat = 0 then -6 else 0) else -1) ∧ S' = if 0 ≤ a ∧ a ≤ 2 then (if S 132 a.toNat = 0 then qq_u S 115 0 (-6) else qq_u (qq_u (qq_u (zz_bk S a 10) 115 12 (S 133 (23 * a + 20).toNat)) 115 13 (S 133 (23 * a + 21).toNat)) 115 0 0) else qq_u S 115 0 (-1)) 33 [some (.inr (115, none)), some (.inl a), some (.inl i)] [] (T) := by
    intro k9
    induction k9 with
    | zero =>
      intro i T hm hv
      refine qq_fsound hxs (sp_7_ok hxs (d + 0)) [33] 300 ?_
      repeat' first | apply And.intro | intro _
      all_goals (first | omega | (refine ih _ _ ?_ ?_ <;> first | omega | (refine ⟨?_, hv.2⟩; rw [hv.1] at *; refine zz_bk_s _ _ _ _ _ (by omega) ?_ ?_ <;> simp (decide := true) only [zz_bk_ne, qq_un', qq_ueq] at * <;> grind)) | (have hi10 : i = 10 := (by omega); rw [if_pos hv.2.1, if_neg hv.2.2]; try (rw [hv.1, hi10]; simp (decide := true) only [zz_bk_ne, qq_un', qq_ueq, ite_self])) | (rw [hv.1] at *; simp (decide := true) only [zz_bk_ne, qq_un', qq_ueq] at *; have q9 := hp.2.2 hv.2.1 hv.2.2 i (by omega) (by omega); unfold qq_in at q9; omega))
    | succ k9 ih =>
      intro i T hm hv
      refine qq_fsound hxs (sp_7_ok hxs (d + 0)) [33] 300 ?_
      repeat' first | apply And.intro | intro _
      all_goals (first | omega | (refine ih _ _ ?_ ?_ <;> first | omega | (refine ⟨?_, hv.2⟩; rw [hv.1] at *; refine zz_bk_s _ _ _ _ _ (by omega) ?_ ?_ <;> simp (decide := true) only [zz_bk_ne, qq_un', qq_ueq] at * <;> grind)) | (have hi10 : i = 10 := (by omega); rw [if_pos hv.2.1, if_neg hv.2.2]; try (rw [hv.1, hi10]; simp (decide := true) only [zz_bk_ne, qq_un', qq_ueq, ite_self])) | (rw [hv.1] at *; simp (decide := true) only [zz_bk_ne, qq_un', qq_ueq] at *; have q9 := hp.2.2 hv.2.1 hv.2.2 i (by omega) (by omega); unfold qq_in at q9; omega))
  have h : qq_p xs (d + 3) (mm_mr mm_m175) (mm_mk mm_m175) (fun r S' => r = some (if 0 ≤ a ∧ a ≤ 2 then (if S 132 a.toNat = 0 then -6 else 0) else -1) ∧ S' = if 0 ≤ a ∧ a ≤ 2 then (if S 132 a.toNat = 0 then qq_u S 115 0 (-6) else qq_u (qq_u (qq_u (zz_bk S a 10) 115 12 (S 133 (23 * a + 20).toNat)) 115 13 (S 133 (23 * a + 21).toNat)) 115 0 0) else qq_u S 115 0 (-1)) 0 (qq_ent mm_m175 [.inr (115, none), .inl a]) [] S := by
    refine qq_fsound hxs (sp_7_ok hxs (d + 0)) [33] 300 ?_
    repeat' first | apply And.intro | intro _ | (simp only [qq_tab])
    all_goals (first | omega | (refine L 10 _ _ ?_ ?_ <;> first | omega | (refine ⟨(zz_bk0 _ _).symm, ?_, ?_⟩ <;> grind [zz_b])) | grind [qq_in, zz_b])
  obtain ⟨r, S', hE, e1, e2⟩ := qq_call_of (y := 175) rfl (Nat.le_of_ble_eq_true rfl) h
  rw [e1, e2] at hE
  exact hE
end
section
theorem zz_cp_ne {S : qq_S} {dx dy dh sx sy sh c : Nat} {i : Int} (h1 : c ≠ dx) (h2 : c ≠ dy) (h3 : c ≠ dh) : zz_cp S dx dy dh sx sy sh i c = S c := by
  funext j
  unfold zz_cp
  rw [if_neg h1, if_neg h2, if_neg h3, ite_self]
theorem zz_cp_R {S : qq_S} {dx dy dh sx sy sh b n : Nat} {i : Int} (h1 : dx < b ∨ b + n ≤ dx) (h2 : dy < b ∨ b + n ≤ dy) (h3 : dh < b ∨ b + n ≤ dh) : qq_R (zz_cp S dx dy dh sx sy sh i) b n = qq_R S b n := by
  funext l
  unfold qq_R
  split
  · rw [zz_cp_ne (by omega) (by omega) (by omega)]
  · rfl
theorem zz_cp_x {S : qq_S} {dx dy dh sx sy sh : Nat} {i : Int} : zz_cp S dx dy dh sx sy sh i dx = fun j : Nat => if (j : Int) < i then S sx j else S dx j := by
  funext j
  unfold zz_cp
  simp
theorem zz_cp_y {S : qq_S} {dx dy dh sx sy sh : Nat} {i : Int} (h : dy ≠ dx) : zz_cp S dx dy dh sx sy sh i dy = fun j : Nat => if (j : Int) < i then S sy j else S dy j := by
  funext j
  unfold zz_cp
  simp [h]
theorem zz_cp_h {S : qq_S} {dx dy dh sx sy sh : Nat} {i : Int} (h : dh ≠ dx) (h' : dh ≠ dy) : zz_cp S dx dy dh sx sy sh i dh = fun j : Nat => if (j : Int) < i then S sh j else S dh j := by
  funext j
  unfold zz_cp
  simp [h, h']
theorem zz_im_R {S : qq_S} {a i : Int} {b n : Nat} (h : 133 < b ∨ b + n ≤ 133) : qq_R (zz_im S a i) b n = qq_R S b n := by
  funext l
  unfold qq_R
  split
  · rw [zz_im_ne (by omega)]
  · rfl
theorem zz_im_1 {T : qq_S} {a : Int} {k s : Nat} (ha : a = k) (hs : s < 10) : zz_im T a 10 133 (23 * k + s) = zz_v1 T s := by
  unfold zz_im
  rw [if_pos ⟨rfl, by omega, by omega⟩]
  congr 1
  omega
theorem zz_im_2 {T : qq_S} {a : Int} {k s : Nat} (ha : a = k) (hs : s < 10) : zz_im T a 10 133 (23 * k + 10 + s) = zz_v2 T s := by
  unfold zz_im
  rw [if_neg (by omega), if_pos ⟨rfl, by omega, by omega⟩]
  congr 1
  omega
theorem zz_im_3 {T : qq_S} {a : Int} {k j : Nat} (ha : a = k) (hj : j < 23 * k ∨ 23 * k + 20 ≤ j) : zz_im T a 10 133 j = T 133 j := by
  unfold zz_im
  rw [if_neg (by omega), if_neg (by omega)]
theorem ii_kp {k : Nat} {n f f' w h : Int} {X Y H kp kp' : Nat → Int} (hi : i_img k n f f' w h X Y H kp) (hk : ∀ j : Nat, 23 * k ≤ j → j < 23 * k + 23 → kp' j = kp j) : i_img k n f f' w h X Y H kp' := by
  obtain ⟨a1, a2, a3⟩ := hi
  refine ⟨a1, a2, fun z => ?_⟩
  obtain ⟨b1, b2⟩ := a3 z
  refine ⟨?_, fun s hs => ?_⟩
  · rw [hk _ (by omega) (by omega), hk _ (by omega) (by omega)]
    exact b1
  · rw [hk _ (by omega) (by omega), hk _ (by omega) (by omega)]
    exact b2 s hs
theorem ii_new {k : Nat} {n w h : Int} {X Y H : Nat → Int} {w' h' : Int} {P' H' X9 Y9 H9 kp : Nat → Int} (hp : i_plan n w h X Y H w' h' P' H') (hX : ∀ s : Nat, s < 10 → X9 s = X s ∧ Y9 s = Y s ∧ H9 s = H s) (hk : ∀ s : Nat, s < 10 → kp (23 * k + s) = (if (s : Int) < n then P' s else -1) ∧ kp (23 * k + 10 + s) = (if (s : Int) < n ∧ ¬ H' s = 0 then 1 else 0)) (hw : kp (23 * k + 20) = w ∧ kp (23 * k + 21) = h) : i_img k n 1 1 w h X9 Y9 H9 kp := by
  obtain ⟨a1, a2, a3⟩ := hp
  refine ⟨Or.inr rfl, rfl, fun _ => ⟨⟨a1.1, a1.2.1, a1.2.2.1, a1.2.2.2.1, hw.1, hw.2⟩, fun s hs => ?_⟩⟩
  obtain ⟨x1, x2, x3⟩ := hX s hs
  obtain ⟨k1, k2⟩ := hk s hs
  obtain ⟨b1, b2, b3, b4⟩ := a2 s hs
  rw [x1, x2, x3, k1, k2]
  refine ⟨b1, b2, b3, b4, ?_, ?_⟩
  · by_cases c : (s : Int) < n
    · rw [if_pos c]
      exact (a3 s c).2
    · rw [if_neg c]
      unfold zz_pt
      rw [if_pos (b4 (by omega))]
  · by_cases c : (s : Int) < n
    · have e := (a3 s c).1
      by_cases c0 : H' s = 0
      · rw [if_neg (fun z => z.2 c0)]
        omega
      · rw [if_pos ⟨c, c0⟩]
        omega
    · rw [if_neg (fun z => c z.1)]
      exact (b3 (b4 (by omega))).symm
theorem o_image {xs : List Int32} (hxs : xs.length ≤ 2048) (S : qq_S) (a : Int) (ha : qq_in a) (hI : inv S) : qq_op xs 29 104 174 [.inl a] S := by
  have hI0 := hI
  obtain ⟨h1, h2, h3, h4, h5, h6, h7, h8, h9, h10, h11⟩ := hI
  have g1 := h1
  have g5 := h5
  unfold i_net at g1
  unfold i_plan at g5
  have e1 := f104 hxs 0 S a ⟨ha, fun i hi => (pl_bd h5 hi).2.2.2.2.1⟩
  have hh : ∀ i : Nat, (i : Int) < S 115 1 → S 124 i = 0 ∨ S 124 i = 1 := fun i hi => by
    have := g5.2.2 i (by omega)
    have := pl_bd h5 (show i < 10 by omega)
    omega
  by_cases c0 : 0 ≤ a ∧ a ≤ 2
  · simp only [if_pos c0] at e1
    have c1 : a = 0 ∨ a = 1 ∨ a = 2 := by omega
    rcases c1 with rfl | rfl | rfl
    · simp (decide := true) only [if_true, if_false, Int.toNat] at e1
      have e2 := f174 hxs 0 (qq_u (qq_u (zz_cp (qq_u (qq_u S 102 0 (S 48 0)) 102 1 (S 48 1)) 103 104 105 49 50 51 10) 114 0 1) 3 9 0) 0 (by simp (decide := true) only [qq_un', qq_ueq, zz_cp_ne]; exact ⟨ha, by omega, hh⟩)
      simp (decide := true) only [qq_un', qq_ueq, zz_cp_ne, if_true, ite_true, and_self] at e2
      refine qq_op_of e1 e2 (by decide) (by decide) rfl (by unfold qq_in; omega) ?_
      have hw : S 115 12 = S 48 0 ∧ S 115 13 = S 48 1 ∧ S 115 1 = S 4 0 := by omega
      unfold inv
      simp (decide := true) only [qq_un', qq_un2, qq_us, qq_ueq, qq_R_u, zz_cp_ne, zz_cp_R, zz_im_ne, zz_im_R]
      refine ⟨h1, h2, h3, h4, h5, h6, h7, ?_, ?_, ?_, by first | trivial | omega, by unfold qq_in; omega⟩
      · simp (decide := true) only [zz_cp_x, zz_cp_y, zz_cp_h, qq_un', qq_ueq]
        refine ii_new h5 (fun s hs => ?_) (fun s hs => ?_) ?_
        · have e9 : (s : Int) < 10 := by omega
          simp only [if_pos e9]
          exact ⟨trivial, trivial, trivial⟩
        · rw [qq_un2 (by omega), qq_un2 (by omega), qq_un2 (by omega), qq_un2 (by omega), zz_im_1 (by decide) hs, zz_im_2 (by decide) hs]
          unfold zz_v1 zz_v2
          simp (decide := true) only [qq_un', qq_ueq, zz_cp_ne, Int.toNat_natCast, hw.2.2]
        · rw [qq_un2 (by decide), show (23 * 0 + 20 : Nat) = ((23 * 0 + 20 : Int)).toNat by decide, qq_us, show (23 * 0 + 21 : Nat) = ((23 * 0 + 21 : Int)).toNat by decide, qq_us]
          exact ⟨hw.1, hw.2.1⟩
      · refine ii_kp h9 (fun j hj1 hj2 => ?_)
        rw [qq_un2 (by omega), qq_un2 (by omega), zz_im_3 (k := 0) (by decide) (by omega)]
        simp (decide := true) only [qq_un', qq_ueq, zz_cp_ne]
      · refine ii_kp h10 (fun j hj1 hj2 => ?_)
        rw [qq_un2 (by omega), qq_un2 (by omega), zz_im_3 (k := 0) (by decide) (by omega)]
        simp (decide := true) only [qq_un', qq_ueq, zz_cp_ne]
    · simp (decide := true) only [if_true, if_false, Int.toNat] at e1
      have e2 := f174 hxs 0 (qq_u (qq_u (zz_cp (qq_u (qq_u S 106 0 (S 48 0)) 106 1 (S 48 1)) 107 108 109 49 50 51 10) 114 1 1) 3 9 0) 1 (by simp (decide := true) only [qq_un', qq_ueq, zz_cp_ne]; exact ⟨ha, by omega, hh⟩)
      simp (decide := true) only [qq_un', qq_ueq, zz_cp_ne, if_true, ite_true, and_self] at e2
      refine qq_op_of e1 e2 (by decide) (by decide) rfl (by unfold qq_in; omega) ?_
      have hw : S 115 12 = S 48 0 ∧ S 115 13 = S 48 1 ∧ S 115 1 = S 4 0 := by omega
      unfold inv
      simp (decide := true) only [qq_un', qq_un2, qq_us, qq_ueq, qq_R_u, zz_cp_ne, zz_cp_R, zz_im_ne, zz_im_R]
      refine ⟨h1, h2, h3, h4, h5, h6, h7, ?_, ?_, ?_, by first | trivial | omega, by unfold qq_in; omega⟩
      · refine ii_kp h8 (fun j hj1 hj2 => ?_)
        rw [qq_un2 (by omega), qq_un2 (by omega), zz_im_3 (k := 1) (by decide) (by omega)]
        simp (decide := true) only [qq_un', qq_ueq, zz_cp_ne]
      · simp (decide := true) only [zz_cp_x, zz_cp_y, zz_cp_h, qq_un', qq_ueq]
        refine ii_new h5 (fun s hs => ?_) (fun s hs => ?_) ?_
        · have e9 : (s : Int) < 10 := by omega
          simp only [if_pos e9]
          exact ⟨trivial, trivial, trivial⟩
        · rw [qq_un2 (by omega), qq_un2 (by omega), qq_un2 (by omega), qq_un2 (by omega), zz_im_1 (by decide) hs, zz_im_2 (by decide) hs]
          unfold zz_v1 zz_v2
          simp (decide := true) only [qq_un', qq_ueq, zz_cp_ne, Int.toNat_natCast, hw.2.2]
        · rw [qq_un2 (by decide), show (23 * 1 + 20 : Nat) = ((23 * 1 + 20 : Int)).toNat by decide, qq_us, show (23 * 1 + 21 : Nat) = ((23 * 1 + 21 : Int)).toNat by decide, qq_us]
          exact ⟨hw.1, hw.2.1⟩
      · refine ii_kp h10 (fun j hj1 hj2 => ?_)
        rw [qq_un2 (by omega), qq_un2 (by omega), zz_im_3 (k := 1) (by decide) (by omega)]
        simp (decide := true) only [qq_un', qq_ueq, zz_cp_ne]
    · simp (decide := true) only [if_true, if_false, Int.toNat] at e1
      have e2 := f174 hxs 0 (qq_u (qq_u (zz_cp (qq_u (qq_u S 110 0 (S 48 0)) 110 1 (S 48 1)) 111 112 113 49 50 51 10) 114 2 1) 3 9 0) 2 (by simp (decide := true) only [qq_un', qq_ueq, zz_cp_ne]; exact ⟨ha, by omega, hh⟩)
      simp (decide := true) only [qq_un', qq_ueq, zz_cp_ne, if_true, ite_true, and_self] at e2
      refine qq_op_of e1 e2 (by decide) (by decide) rfl (by unfold qq_in; omega) ?_
      have hw : S 115 12 = S 48 0 ∧ S 115 13 = S 48 1 ∧ S 115 1 = S 4 0 := by omega
      unfold inv
      simp (decide := true) only [qq_un', qq_un2, qq_us, qq_ueq, qq_R_u, zz_cp_ne, zz_cp_R, zz_im_ne, zz_im_R]
      refine ⟨h1, h2, h3, h4, h5, h6, h7, ?_, ?_, ?_, by first | trivial | omega, by unfold qq_in; omega⟩
      · refine ii_kp h8 (fun j hj1 hj2 => ?_)
        rw [qq_un2 (by omega), qq_un2 (by omega), zz_im_3 (k := 2) (by decide) (by omega)]
        simp (decide := true) only [qq_un', qq_ueq, zz_cp_ne]
      · refine ii_kp h9 (fun j hj1 hj2 => ?_)
        rw [qq_un2 (by omega), qq_un2 (by omega), zz_im_3 (k := 2) (by decide) (by omega)]
        simp (decide := true) only [qq_un', qq_ueq, zz_cp_ne]
      · simp (decide := true) only [zz_cp_x, zz_cp_y, zz_cp_h, qq_un', qq_ueq]
        refine ii_new h5 (fun s hs => ?_) (fun s hs => ?_) ?_
        · have e9 : (s : Int) < 10 := by omega
          simp only [if_pos e9]
          exact ⟨trivial, trivial, trivial⟩
        · rw [qq_un2 (by omega), qq_un2 (by omega), qq_un2 (by omega), qq_un2 (by omega), zz_im_1 (by decide) hs, zz_im_2 (by decide) hs]
          unfold zz_v1 zz_v2
          simp (decide := true) only [qq_un', qq_ueq, zz_cp_ne, Int.toNat_natCast, hw.2.2]
        · rw [qq_un2 (by decide), show (23 * 2 + 20 : Nat) = ((23 * 2 + 20 : Int)).toNat by decide, qq_us, show (23 * 2 + 21 : Nat) = ((23 * 2 + 21 : Int)).toNat by decide, qq_us]
          exact ⟨hw.1, hw.2.1⟩
  · simp only [if_neg c0] at e1
    have e2 := f174 hxs 0 (qq_u S 3 9 (-1)) a (by simp (decide := true) only [qq_un', qq_ueq]; exact ⟨ha, by omega, hh⟩)
    simp (decide := true) only [qq_un', if_neg c0] at e2
    refine qq_op_of e1 e2 (by decide) (by decide) rfl (by unfold qq_in; omega) ?_
    unfold inv
    simp (decide := true) only [qq_un', qq_un2, qq_us, qq_ueq, qq_R_u]
    exact ⟨h1, h2, h3, h4, h5, h6, h7, h8, h9, h10, by first | trivial | omega, by unfold qq_in; omega⟩
end
section
theorem zz_bk_R {S : qq_S} {a i : Int} {b n : Nat} (h : 124 < b ∨ b + n ≤ 123) : qq_R (zz_bk S a i) b n = qq_R S b n := by
  funext l
  unfold qq_R
  split
  · rw [zz_bk_ne (by omega) (by omega)]
  · rfl
theorem zz_bk_p {S : qq_S} {a i : Int} : zz_bk S a i 123 = fun j : Nat => if (j : Int) < i then S 133 (23 * a + j).toNat else S 123 j := by
  funext j
  unfold zz_bk
  simp
theorem zz_bk_h {S : qq_S} {a i : Int} : zz_bk S a i 124 = fun j : Nat => if (j : Int) < i then (if S 133 (23 * a + 10 + j).toNat = 1 then 1 else 0) else S 124 j := by
  funext j
  unfold zz_bk
  simp
theorem ip_back {k : Nat} {n f f' w h a : Int} {X Y H kp X0 Y0 H0 P0 Q0 : Nat → Int} (hi : i_img k n f f' w h X Y H kp) (hf : ¬ f = 0) (ha : a = k) (hn : n ≤ 10) : i_plan n w h (fun j : Nat => if (j : Int) < 10 then X j else X0 j) (fun j : Nat => if (j : Int) < 10 then Y j else Y0 j) (fun j : Nat => if (j : Int) < 10 then H j else H0 j) (kp (23 * a + 20).toNat) (kp (23 * a + 21).toNat) (fun j : Nat => if (j : Int) < 10 then kp (23 * a + j).toNat else P0 j) (fun j : Nat => if (j : Int) < 10 then (if kp (23 * a + 10 + j).toNat = 1 then 1 else 0) else Q0 j) := by
  obtain ⟨a1, a2, a3⟩ := hi
  obtain ⟨b1, b2⟩ := a3 (by omega)
  refine ⟨?_, fun s hs => ?_, fun s hs => ?_⟩
  · rw [show (23 * a + 20).toNat = 23 * k + 20 by omega, show (23 * a + 21).toNat = 23 * k + 21 by omega]
    omega
  · have e9 : (s : Int) < 10 := by omega
    simp only [if_pos e9]
    obtain ⟨c1, c2, c3, c4, c5⟩ := b2 s hs
    exact ⟨c1, c2, c3, c4⟩
  · have e9 : (s : Int) < 10 := by omega
    simp only [if_pos e9]
    obtain ⟨c1, c2, c3, c4, c5, c6⟩ := b2 s (by omega)
    rw [show (23 * a + s).toNat = 23 * k + s by omega, show (23 * a + 10 + s).toNat = 23 * k + 10 + s by omega, c5, c6]
    refine ⟨?_, rfl⟩
    split <;> omega
theorem ii_h01 {k : Nat} {n f f' w h : Int} {X Y H kp : Nat → Int} (hi : i_img k n f f' w h X Y H kp) (hf : ¬ f = 0) : (∀ i : Nat, i < 10 → H i = 0 ∨ H i = 1) ∧ ∀ a i : Int, a = k → 0 ≤ i → i < 10 → qq_in (kp (23 * a + 10 + i).toNat) := by
  obtain ⟨a1, a2, a3⟩ := hi
  obtain ⟨b1, b2⟩ := a3 (by omega)
  refine ⟨fun i hi => (b2 i hi).2.1, fun a i ha h0 h1 => ?_⟩
  have c := b2 i.toNat (by omega)
  rw [show (23 * a + 10 + i).toNat = 23 * k + 10 + i.toNat by omega, c.2.2.2.2.2]
  unfold qq_in
  omega
theorem o_back {xs : List Int32} (hxs : xs.length ≤ 2048) (S : qq_S) (a : Int) (ha : qq_in a) (hI : inv S) : qq_op xs 29 105 175 [.inl a] S := by
  have hI0 := hI
  obtain ⟨h1, h2, h3, h4, h5, h6, h7, h8, h9, h10, h11⟩ := hI
  have g1 := h1
  unfold i_net at g1
  have f0 := h8.1
  have f1 := h9.1
  have f2 := h10.1
  have k0 := h8.2.1
  have k1 := h9.2.1
  have k2 := h10.2.1
  have e1 := f105 hxs 0 S a ⟨ha, fun z => by (have c1 : a = 0 ∨ a = 1 ∨ a = 2 := by omega); rcases c1 with rfl | rfl | rfl <;> assumption, fun z y => by subst z; exact (ii_h01 h8 y).1, fun z y => by subst z; exact (ii_h01 h9 y).1, fun z y => by subst z; exact (ii_h01 h10 y).1⟩
  have pre2 : qq_in a ∧ (0 ≤ a ∧ a ≤ 2 → S 132 a.toNat = 0 ∨ S 132 a.toNat = 1) ∧ (0 ≤ a ∧ a ≤ 2 → ¬ S 132 a.toNat = 0 → ∀ i : Int, 0 ≤ i → i < 10 → qq_in (S 133 (23 * a + 10 + i).toNat)) := by
    refine ⟨ha, fun z => ?_, fun z y => ?_⟩
    · have c1 : a = 0 ∨ a = 1 ∨ a = 2 := by omega
      rcases c1 with rfl | rfl | rfl
      · show S 132 0 = 0 ∨ S 132 0 = 1; omega
      · show S 132 1 = 0 ∨ S 132 1 = 1; omega
      · show S 132 2 = 0 ∨ S 132 2 = 1; omega
    · have c1 : a = 0 ∨ a = 1 ∨ a = 2 := by omega
      rcases c1 with rfl | rfl | rfl
      · exact fun i => (ii_h01 h8 (fun w => y (k0.trans w))).2 0 i rfl
      · exact fun i => (ii_h01 h9 (fun w => y (k1.trans w))).2 1 i rfl
      · exact fun i => (ii_h01 h10 (fun w => y (k2.trans w))).2 2 i rfl
  by_cases c0 : 0 ≤ a ∧ a ≤ 2
  · simp only [if_pos c0] at e1
    have c1 : a = 0 ∨ a = 1 ∨ a = 2 := by omega
    rcases c1 with rfl | rfl | rfl
    · replace e1 : qq_E xs (0 + 4) 105 [.inr (3, none), .inl 0] S (some (if S 114 0 = 0 then -6 else 0)) (if S 114 0 = 0 then qq_u S 3 9 (-6) else qq_u (zz_cp (qq_u (qq_u S 48 0 (S 102 0)) 48 1 (S 102 1)) 49 50 51 103 104 105 10) 3 9 0) := by simpa (decide := true) using e1
      have pre3 : qq_in (0 : Int) ∧ (0 ≤ (0 : Int) ∧ (0 : Int) ≤ 2 → S 132 0 = 0 ∨ S 132 0 = 1) ∧ (0 ≤ (0 : Int) ∧ (0 : Int) ≤ 2 → ¬ S 132 0 = 0 → ∀ i : Int, 0 ≤ i → i < 10 → qq_in (S 133 (23 * (0 : Int) + 10 + i).toNat)) := pre2
      by_cases c1 : S 114 0 = 0
      · simp only [if_pos c1] at e1
        have c2 : S 132 0 = 0 := k0.trans c1
        have e2 := f175 hxs 0 (qq_u S 3 9 (-6)) 0 (by simp (decide := true) only [qq_un', qq_ueq]; exact ⟨pre3.1, fun _ => pre3.2.1 (by decide), fun _ => pre3.2.2 (by decide)⟩)
        replace e2 : qq_E xs (0 + 4) 175 [.inr (115, none), .inl 0] (qq_u S 3 9 (-6)) (some (-6)) (qq_u (qq_u S 3 9 (-6)) 115 0 (-6)) := by
          simp (decide := true) only [qq_un', qq_ueq, if_true, ite_true, and_self] at e2
          rw [if_pos (show S 132 (0 : Int).toNat = 0 from c2), if_pos (show S 132 (0 : Int).toNat = 0 from c2)] at e2
          exact e2
        refine qq_op_of e1 e2 (by decide) (by decide) rfl (by unfold qq_in; omega) ?_
        unfold inv
        simp (decide := true) only [qq_un', qq_un2, qq_us, qq_ueq, qq_R_u]
        exact ⟨h1, h2, h3, h4, h5, h6, h7, h8, h9, h10, by first | trivial | omega, by unfold qq_in; omega⟩
      · simp only [if_neg c1] at e1
        have c2 : ¬ S 132 0 = 0 := fun w => c1 (k0.symm.trans w)
        have e2 := f175 hxs 0 (qq_u (zz_cp (qq_u (qq_u S 48 0 (S 102 0)) 48 1 (S 102 1)) 49 50 51 103 104 105 10) 3 9 0) 0 (by simp (decide := true) only [qq_un', qq_ueq, zz_cp_ne]; exact ⟨pre3.1, fun _ => pre3.2.1 (by decide), fun _ => pre3.2.2 (by decide)⟩)
        simp (decide := true) only [qq_un', qq_ueq, zz_cp_ne, if_true, ite_true, and_self] at e2
        rw [if_neg (show ¬ S 132 (0 : Int).toNat = 0 from c2), if_neg (show ¬ S 132 (0 : Int).toNat = 0 from c2)] at e2
        refine qq_op_of e1 e2 (by decide) (by decide) rfl (by unfold qq_in; omega) ?_
        unfold inv
        simp (decide := true) only [qq_un', qq_un2, qq_us, qq_ueq, qq_R_u, zz_cp_ne, zz_cp_R, zz_cp_x, zz_cp_y, zz_cp_h, zz_bk_ne, zz_bk_R, zz_bk_p, zz_bk_h]
        exact ⟨h1, h2, h3, h4, ip_back h8 c1 rfl (by omega), h6, h7, h8, h9, h10, by first | trivial | omega, by unfold qq_in; omega⟩
    · replace e1 : qq_E xs (0 + 4) 105 [.inr (3, none), .inl 1] S (some (if S 114 1 = 0 then -6 else 0)) (if S 114 1 = 0 then qq_u S 3 9 (-6) else qq_u (zz_cp (qq_u (qq_u S 48 0 (S 106 0)) 48 1 (S 106 1)) 49 50 51 107 108 109 10) 3 9 0) := by simpa (decide := true) using e1
      have pre3 : qq_in (1 : Int) ∧ (0 ≤ (1 : Int) ∧ (1 : Int) ≤ 2 → S 132 1 = 0 ∨ S 132 1 = 1) ∧ (0 ≤ (1 : Int) ∧ (1 : Int) ≤ 2 → ¬ S 132 1 = 0 → ∀ i : Int, 0 ≤ i → i < 10 → qq_in (S 133 (23 * (1 : Int) + 10 + i).toNat)) := pre2
      by_cases c1 : S 114 1 = 0
      · simp only [if_pos c1] at e1
        have c2 : S 132 1 = 0 := k1.trans c1
        have e2 := f175 hxs 0 (qq_u S 3 9 (-6)) 1 (by simp (decide := true) only [qq_un', qq_ueq]; exact ⟨pre3.1, fun _ => pre3.2.1 (by decide), fun _ => pre3.2.2 (by decide)⟩)
        replace e2 : qq_E xs (0 + 4) 175 [.inr (115, none), .inl 1] (qq_u S 3 9 (-6)) (some (-6)) (qq_u (qq_u S 3 9 (-6)) 115 0 (-6)) := by
          simp (decide := true) only [qq_un', qq_ueq, if_true, ite_true, and_self] at e2
          rw [if_pos (show S 132 (1 : Int).toNat = 0 from c2), if_pos (show S 132 (1 : Int).toNat = 0 from c2)] at e2
          exact e2
        refine qq_op_of e1 e2 (by decide) (by decide) rfl (by unfold qq_in; omega) ?_
        unfold inv
        simp (decide := true) only [qq_un', qq_un2, qq_us, qq_ueq, qq_R_u]
        exact ⟨h1, h2, h3, h4, h5, h6, h7, h8, h9, h10, by first | trivial | omega, by unfold qq_in; omega⟩
      · simp only [if_neg c1] at e1
        have c2 : ¬ S 132 1 = 0 := fun w => c1 (k1.symm.trans w)
        have e2 := f175 hxs 0 (qq_u (zz_cp (qq_u (qq_u S 48 0 (S 106 0)) 48 1 (S 106 1)) 49 50 51 107 108 109 10) 3 9 0) 1 (by simp (decide := true) only [qq_un', qq_ueq, zz_cp_ne]; exact ⟨pre3.1, fun _ => pre3.2.1 (by decide), fun _ => pre3.2.2 (by decide)⟩)
        simp (decide := true) only [qq_un', qq_ueq, zz_cp_ne, if_true, ite_true, and_self] at e2
        rw [if_neg (show ¬ S 132 (1 : Int).toNat = 0 from c2), if_neg (show ¬ S 132 (1 : Int).toNat = 0 from c2)] at e2
        refine qq_op_of e1 e2 (by decide) (by decide) rfl (by unfold qq_in; omega) ?_
        unfold inv
        simp (decide := true) only [qq_un', qq_un2, qq_us, qq_ueq, qq_R_u, zz_cp_ne, zz_cp_R, zz_cp_x, zz_cp_y, zz_cp_h, zz_bk_ne, zz_bk_R, zz_bk_p, zz_bk_h]
        exact ⟨h1, h2, h3, h4, ip_back h9 c1 rfl (by omega), h6, h7, h8, h9, h10, by first | trivial | omega, by unfold qq_in; omega⟩
    · replace e1 : qq_E xs (0 + 4) 105 [.inr (3, none), .inl 2] S (some (if S 114 2 = 0 then -6 else 0)) (if S 114 2 = 0 then qq_u S 3 9 (-6) else qq_u (zz_cp (qq_u (qq_u S 48 0 (S 110 0)) 48 1 (S 110 1)) 49 50 51 111 112 113 10) 3 9 0) := by simpa (decide := true) using e1
      have pre3 : qq_in (2 : Int) ∧ (0 ≤ (2 : Int) ∧ (2 : Int) ≤ 2 → S 132 2 = 0 ∨ S 132 2 = 1) ∧ (0 ≤ (2 : Int) ∧ (2 : Int) ≤ 2 → ¬ S 132 2 = 0 → ∀ i : Int, 0 ≤ i → i < 10 → qq_in (S 133 (23 * (2 : Int) + 10 + i).toNat)) := pre2
      by_cases c1 : S 114 2 = 0
      · simp only [if_pos c1] at e1
        have c2 : S 132 2 = 0 := k2.trans c1
        have e2 := f175 hxs 0 (qq_u S 3 9 (-6)) 2 (by simp (decide := true) only [qq_un', qq_ueq]; exact ⟨pre3.1, fun _ => pre3.2.1 (by decide), fun _ => pre3.2.2 (by decide)⟩)
        replace e2 : qq_E xs (0 + 4) 175 [.inr (115, none), .inl 2] (qq_u S 3 9 (-6)) (some (-6)) (qq_u (qq_u S 3 9 (-6)) 115 0 (-6)) := by
          simp (decide := true) only [qq_un', qq_ueq, if_true, ite_true, and_self] at e2
          rw [if_pos (show S 132 (2 : Int).toNat = 0 from c2), if_pos (show S 132 (2 : Int).toNat = 0 from c2)] at e2
          exact e2
        refine qq_op_of e1 e2 (by decide) (by decide) rfl (by unfold qq_in; omega) ?_
        unfold inv
        simp (decide := true) only [qq_un', qq_un2, qq_us, qq_ueq, qq_R_u]
        exact ⟨h1, h2, h3, h4, h5, h6, h7, h8, h9, h10, by first | trivial | omega, by unfold qq_in; omega⟩
      · simp only [if_neg c1] at e1
        have c2 : ¬ S 132 2 = 0 := fun w => c1 (k2.symm.trans w)
        have e2 := f175 hxs 0 (qq_u (zz_cp (qq_u (qq_u S 48 0 (S 110 0)) 48 1 (S 110 1)) 49 50 51 111 112 113 10) 3 9 0) 2 (by simp (decide := true) only [qq_un', qq_ueq, zz_cp_ne]; exact ⟨pre3.1, fun _ => pre3.2.1 (by decide), fun _ => pre3.2.2 (by decide)⟩)
        simp (decide := true) only [qq_un', qq_ueq, zz_cp_ne, if_true, ite_true, and_self] at e2
        rw [if_neg (show ¬ S 132 (2 : Int).toNat = 0 from c2), if_neg (show ¬ S 132 (2 : Int).toNat = 0 from c2)] at e2
        refine qq_op_of e1 e2 (by decide) (by decide) rfl (by unfold qq_in; omega) ?_
        unfold inv
        simp (decide := true) only [qq_un', qq_un2, qq_us, qq_ueq, qq_R_u, zz_cp_ne, zz_cp_R, zz_cp_x, zz_cp_y, zz_cp_h, zz_bk_ne, zz_bk_R, zz_bk_p, zz_bk_h]
        exact ⟨h1, h2, h3, h4, ip_back h10 c1 rfl (by omega), h6, h7, h8, h9, h10, by first | trivial | omega, by unfold qq_in; omega⟩
  · simp only [if_neg c0] at e1
    have e2 := f175 hxs 0 (qq_u S 3 9 (-1)) a (by simp (decide := true) only [qq_un', qq_ueq]; exact pre2)
    simp only [if_neg c0] at e2
    refine qq_op_of e1 e2 (by decide) (by decide) rfl (by unfold qq_in; omega) ?_
    unfold inv
    simp (decide := true) only [qq_un', qq_un2, qq_us, qq_ueq, qq_R_u]
    exact ⟨h1, h2, h3, h4, h5, h6, h7, h8, h9, h10, by first | trivial | omega, by unfold qq_in; omega⟩
end
section
set_option maxRecDepth 20000 in
theorem f123 {xs : List Int32} (hxs : xs.length ≤ 2048) (d : Nat) (S : qq_S) (a : Int) (hp : -100000 ≤ a ∧ a ≤ 100000) : qq_E xs (d + 1) 123 [.inl a] S (some (zz_abs a)) (S) := by
  have h : qq_p xs (d + 0) (mm_mr mm_m123) (mm_mk mm_m123) (fun r S' => r = some (zz_abs a) ∧ S' = S) 0 (qq_ent mm_m123 [.inl a]) [] S := by
    refine qq_fsound hxs (sp_0_ok hxs (d + 0)) [] 200 ?_
    repeat' first | apply And.intro | intro _ | (simp only [qq_tab]) | (simp only [qq_pl])
    all_goals (first | rfl | omega | grind [qq_in, zz_abs])
  obtain ⟨r, S', hE, e1, e2⟩ := qq_call_of (y := 123) rfl (Nat.le_of_ble_eq_true rfl) h
  rw [e1, e2] at hE
  exact hE
set_option maxRecDepth 20000 in
theorem f124 {xs : List Int32} (hxs : xs.length ≤ 2048) (d : Nat) (S : qq_S) (a : Int) (b : Int) (hp : qq_in a ∧ qq_in b) : qq_E xs (d + 1) 124 [.inl a, .inl b] S (some (if 0 < a then (if 0 < b then 1 else 7) else (if 0 < b then 3 else 5))) (S) := by
  have h : qq_p xs (d + 0) (mm_mr mm_m124) (mm_mk mm_m124) (fun r S' => r = some (if 0 < a then (if 0 < b then 1 else 7) else (if 0 < b then 3 else 5)) ∧ S' = S) 0 (qq_ent mm_m124 [.inl a, .inl b]) [] S := by
    refine qq_fsound hxs (sp_0_ok hxs (d + 0)) [] 200 ?_
    repeat' first | apply And.intro | intro _ | (simp only [qq_tab]) | (simp only [qq_pl])
    all_goals (first | rfl | omega | grind [qq_in])
  obtain ⟨r, S', hE, e1, e2⟩ := qq_call_of (y := 124) rfl (Nat.le_of_ble_eq_true rfl) h
  rw [e1, e2] at hE
  exact hE
def sp_8 : qq_P := fun y as S => match y, as with
  | 110, [.inl a, .inl lo, .inl hi] => some (qq_in a ∧ qq_in lo ∧ qq_in hi, some (zz_b (lo ≤ a ∧ a ≤ hi)), S)
  | 114, [.inl a, .inl lo, .inl hi] => some (qq_in a ∧ qq_in lo ∧ qq_in hi, some (zz_b (lo ≤ a ∧ a ≤ hi)), S)
  | 108, [.inr (3, none), .inl a] => some (True, some (a), qq_u S 3 9 a)
  | 109, [.inr (3, none), .inl a] => some (True, some (a), qq_u S 3 9 0)
  | 115, [.inr (115, none), .inl a] => some (qq_in a, some (a), qq_u S 115 0 (if a < 0 then a else 0))
  | 31, [.inr (4, none), .inl a] => some (qq_in a ∧ qq_in (S 4 0), some (zz_b (0 ≤ a ∧ a < S 4 0)), S)
  | 32, [.inr (4, none), .inl a] => some (qq_in a ∧ qq_in (S 4 1), some (zz_b (0 ≤ a ∧ a < S 4 1)), S)
  | 107, [.inr (3, none)] => some (True, some (S 3 9), S)
  | 177, [.inr (115, none)] => some (True, some (S 115 0), S)
  | 45, [.inr (48, none)] => some (True, some (S 48 0 * S 48 1), S)
  | 46, [.inr (48, none), .inl a] => some (0 ≤ a ∧ a < 10 ∧ qq_in (S 49 a.toNat), some (zz_b (¬ S 49 a.toNat = -1)), S)
  | 52, [.inr (48, none), .inl a, .inl b] => some (0 ≤ a ∧ a < 10 ∧ 0 ≤ b ∧ b < 10 ∧ (-8 ≤ S 49 a.toNat ∧ S 49 a.toNat ≤ 8 ∧ -8 ≤ S 49 b.toNat ∧ S 49 b.toNat ≤ 8 ∧ -8 ≤ S 50 a.toNat ∧ S 50 a.toNat ≤ 8 ∧ -8 ≤ S 50 b.toNat ∧ S 50 b.toNat ≤ 8), some (zz_dir (S 49 b.toNat - S 49 a.toNat) (S 50 b.toNat - S 50 a.toNat)), S)
  | 45, [.inr (56, none)] => some (True, some (S 56 0 * S 56 1), S)
  | 46, [.inr (56, none), .inl a] => some (0 ≤ a ∧ a < 10 ∧ qq_in (S 57 a.toNat), some (zz_b (¬ S 57 a.toNat = -1)), S)
  | 52, [.inr (56, none), .inl a, .inl b] => some (0 ≤ a ∧ a < 10 ∧ 0 ≤ b ∧ b < 10 ∧ (-8 ≤ S 57 a.toNat ∧ S 57 a.toNat ≤ 8 ∧ -8 ≤ S 57 b.toNat ∧ S 57 b.toNat ≤ 8 ∧ -8 ≤ S 58 a.toNat ∧ S 58 a.toNat ≤ 8 ∧ -8 ≤ S 58 b.toNat ∧ S 58 b.toNat ≤ 8), some (zz_dir (S 57 b.toNat - S 57 a.toNat) (S 58 b.toNat - S 58 a.toNat)), S)
  | 64, [.inl a, .inl b] => some (-100 ≤ a ∧ a ≤ 100 ∧ -100 ≤ b ∧ b ≤ 100, some (if 4 < qq_and (a - b) 7 then 8 - qq_and (a - b) 7 else qq_and (a - b) 7), S)
  | 111, [.inl a] => some (qq_in a, some (zz_b (0 ≤ a ∧ a ≤ 100)), S)
  | 116, [.inr (115, none), .inl a] => some (qq_in a ∧ 0 ≤ S 115 1 ∧ S 115 1 ≤ 10, some (zz_b (0 ≤ a ∧ a < S 115 1)), S)
  | 92, [.inr (3, none), .inl a] => some (qq_in a, some (if 1 ≤ a ∧ a ≤ 4 then S 52 3 else -1), if 1 ≤ a ∧ a ≤ 4 then qq_u (qq_u S 52 3 a) 3 9 0 else qq_u S 3 9 (-1))
  | 132, [.inr (115, none), .inl a] => some (qq_in a ∧ 0 ≤ S 115 14 ∧ S 115 14 ≤ 4, some (if 1 ≤ a ∧ a ≤ 4 then S 115 14 else -1), if 1 ≤ a ∧ a ≤ 4 then qq_u (qq_u S 115 14 a) 115 0 0 else qq_u S 115 0 (-1))
  | 93, [.inr (3, none), .inl a, .inl b, .inl c] => some (qq_in a ∧ qq_in b ∧ qq_in c, some (if 0 ≤ a ∧ a ≤ 100 ∧ 0 ≤ b ∧ b ≤ 100 ∧ 0 ≤ c ∧ c ≤ 100 then 0 else -1), if 0 ≤ a ∧ a ≤ 100 ∧ 0 ≤ b ∧ b ≤ 100 ∧ 0 ≤ c ∧ c ≤ 100 then qq_u (qq_u (qq_u (qq_u S 52 0 a) 52 1 b) 52 2 c) 3 9 0 else qq_u S 3 9 (-1))
  | 133, [.inr (115, none), .inl a, .inl b, .inl c] => some (qq_in a ∧ qq_in b ∧ qq_in c, some (if 0 ≤ a ∧ a ≤ 100 ∧ 0 ≤ b ∧ b ≤ 100 ∧ 0 ≤ c ∧ c ≤ 100 then 0 else -1), if 0 ≤ a ∧ a ≤ 100 ∧ 0 ≤ b ∧ b ≤ 100 ∧ 0 ≤ c ∧ c ≤ 100 then qq_u (qq_u (qq_u (qq_u S 115 15 a) 115 16 b) 115 17 c) 115 0 0 else qq_u S 115 0 (-1))
  | 47, [.inr (48, none), .inl a] => some (0 ≤ a ∧ a < 10 ∧ qq_in (S 49 a.toNat), some (if S 49 a.toNat = -1 then -1 else S 50 a.toNat * S 48 0 + S 49 a.toNat), S)
  | 48, [.inr (48, none), .inl a, .inl p] => some (0 ≤ a ∧ a < 10 ∧ qq_in p ∧ 0 ≤ S 48 0 ∧ S 48 0 ≤ 8, none, if p < 0 ∨ S 48 0 < 1 then qq_u (qq_u S 49 a.toNat (-1)) 50 a.toNat (-1) else qq_u (qq_u S 49 a.toNat (p % S 48 0)) 50 a.toNat (p / S 48 0))
  | 47, [.inr (56, none), .inl a] => some (0 ≤ a ∧ a < 10 ∧ qq_in (S 57 a.toNat), some (if S 57 a.toNat = -1 then -1 else S 58 a.toNat * S 56 0 + S 57 a.toNat), S)
  | 48, [.inr (56, none), .inl a, .inl p] => some (0 ≤ a ∧ a < 10 ∧ qq_in p ∧ 0 ≤ S 56 0 ∧ S 56 0 ≤ 8, none, if p < 0 ∨ S 56 0 < 1 then qq_u (qq_u S 57 a.toNat (-1)) 58 a.toNat (-1) else qq_u (qq_u S 57 a.toNat (p % S 56 0)) 58 a.toNat (p / S 56 0))
  | 35, [.inr (4, none)] => some (True, some (S 4 1), qq_u S 4 1 (S 4 1 + 1))
  | 50, [.inr (48, none)] => some (∀ i : Nat, i < 10 → qq_in (S 49 i), some (zz_cnt (S 49) (-1) 10), S)
  | 51, [.inr (48, none)] => some (∀ i : Nat, i < 10 → qq_in (S 51 i), some (zz_cnt (S 51) 0 10), S)
  | 44, [.inr (48, none), .inl w, .inl h] => some (True, none, zz_rs (qq_u (qq_u S 48 0 w) 48 1 h) 49 50 51 10)
  | 44, [.inr (56, none), .inl w, .inl h] => some (True, none, zz_rs (qq_u (qq_u S 56 0 w) 56 1 h) 57 58 59 10)
  | 33, [.inr (4, none), .inl a, .inl b] => some (qq_in a ∧ qq_in b ∧ (0 ≤ S 4 0 ∧ S 4 0 ≤ 10) ∧ (∀ i : Nat, (i : Int) < S 4 0 → qq_in (S 5 i) ∧ qq_in (S 6 i)), some (zz_b (zz_has (S 5) (S 6) a b (S 4 0).toNat = true)), S)
  | 34, [.inr (4, none), .inl a, .inl b] => some (0 ≤ S 4 0 ∧ S 4 0 < 10, some (S 4 0), qq_u (qq_u (qq_u S 5 (S 4 0).toNat a) 6 (S 4 0).toNat b) 4 0 (S 4 0 + 1))
  | 49, [.inr (48, none), .inr (102, none)] => some (∀ i : Nat, i < 10 → S 105 i = 0 ∨ S 105 i = 1, none, zz_cp (qq_u (qq_u S 48 0 (S 102 0)) 48 1 (S 102 1)) 49 50 51 103 104 105 10)
  | 49, [.inr (48, none), .inr (106, none)] => some (∀ i : Nat, i < 10 → S 109 i = 0 ∨ S 109 i = 1, none, zz_cp (qq_u (qq_u S 48 0 (S 106 0)) 48 1 (S 106 1)) 49 50 51 107 108 109 10)
  | 49, [.inr (48, none), .inr (110, none)] => some (∀ i : Nat, i < 10 → S 113 i = 0 ∨ S 113 i = 1, none, zz_cp (qq_u (qq_u S 48 0 (S 110 0)) 48 1 (S 110 1)) 49 50 51 111 112 113 10)
  | 49, [.inr (102, none), .inr (48, none)] => some (∀ i : Nat, i < 10 → S 51 i = 0 ∨ S 51 i = 1, none, zz_cp (qq_u (qq_u S 102 0 (S 48 0)) 102 1 (S 48 1)) 103 104 105 49 50 51 10)
  | 49, [.inr (106, none), .inr (48, none)] => some (∀ i : Nat, i < 10 → S 51 i = 0 ∨ S 51 i = 1, none, zz_cp (qq_u (qq_u S 106 0 (S 48 0)) 106 1 (S 48 1)) 107 108 109 49 50 51 10)
  | 49, [.inr (110, none), .inr (48, none)] => some (∀ i : Nat, i < 10 → S 51 i = 0 ∨ S 51 i = 1, none, zz_cp (qq_u (qq_u S 110 0 (S 48 0)) 110 1 (S 48 1)) 111 112 113 49 50 51 10)
  | 123, [.inl a] => some (-100000 ≤ a ∧ a ≤ 100000, some (zz_abs a), S)
  | 124, [.inl a, .inl b] => some (qq_in a ∧ qq_in b, some (if 0 < a then (if 0 < b then 1 else 7) else (if 0 < b then 3 else 5)), S)
  | _, _ => none
theorem sp_8_ok {xs : List Int32} (hxs : xs.length ≤ 2048) (d : Nat) : qq_ok xs (d + 3) sp_8 := by
  intro y as S pre r S2 h hp
  unfold sp_8 at h
  split at h
  · cases h; exact f110 hxs (d + 2) S _ _ _ hp
  · cases h; exact f114 hxs (d + 2) S _ _ _ hp
  · cases h; exact f108 hxs (d + 2) S _ hp
  · cases h; exact f109 hxs (d + 2) S _ hp
  · cases h; exact f115 hxs (d + 2) S _ hp
  · cases h; exact f31 hxs (d + 2) S _ hp
  · cases h; exact f32 hxs (d + 2) S _ hp
  · cases h; exact f107 hxs (d + 2) S hp
  · cases h; exact f177 hxs (d + 2) S hp
  · cases h; exact f45_48 hxs (d + 2) S hp
  · cases h; exact f46_48 hxs (d + 2) S _ hp
  · cases h; exact f52_48 hxs (d + 2) S _ _ hp
  · cases h; exact f45_56 hxs (d + 2) S hp
  · cases h; exact f46_56 hxs (d + 2) S _ hp
  · cases h; exact f52_56 hxs (d + 2) S _ _ hp
  · cases h; exact f64 hxs (d + 2) S _ _ hp
  · cases h; exact f111 hxs (d + 1) S _ hp
  · cases h; exact f116 hxs (d + 1) S _ hp
  · cases h; exact f92 hxs (d + 1) S _ hp
  · cases h; exact f132 hxs (d + 1) S _ hp
  · cases h; exact f93 hxs (d + 0) S _ _ _ hp
  · cases h; exact f133 hxs (d + 1) S _ _ _ hp
  · cases h; exact f47_48 hxs (d + 1) S _ hp
  · cases h; exact f48_48 hxs (d + 2) S _ _ hp
  · cases h; exact f47_56 hxs (d + 1) S _ hp
  · cases h; exact f48_56 hxs (d + 2) S _ _ hp
  · cases h; exact f35 hxs (d + 2) S hp
  · cases h; exact f50 hxs (d + 1) S hp
  · cases h; exact f51 hxs (d + 1) S hp
  · cases h; exact f44_48 hxs (d + 2) S _ _ hp
  · cases h; exact f44_56 hxs (d + 2) S _ _ hp
  · cases h; exact f33 hxs (d + 2) S _ _ hp
  · cases h; exact f34 hxs (d + 2) S _ _ hp
  · cases h; exact f49_48_102 hxs (d + 2) S hp
  · cases h; exact f49_48_106 hxs (d + 2) S hp
  · cases h; exact f49_48_110 hxs (d + 2) S hp
  · cases h; exact f49_102_48 hxs (d + 2) S hp
  · cases h; exact f49_106_48 hxs (d + 2) S hp
  · cases h; exact f49_110_48 hxs (d + 2) S hp
  · cases h; exact f123 hxs (d + 2) S _ hp
  · cases h; exact f124 hxs (d + 2) S _ _ hp
  · cases h
set_option maxRecDepth 20000 in
theorem f125 {xs : List Int32} (hxs : xs.length ≤ 2048) (d : Nat) (S : qq_S) (a : Int) (b : Int) (hp : (0 ≤ a ∧ a < 10 ∧ 0 ≤ b ∧ b < 10) ∧ (0 ≤ S 116 a.toNat ∧ S 116 a.toNat ≤ 1000) ∧ (0 ≤ S 116 b.toNat ∧ S 116 b.toNat ≤ 1000) ∧ (0 ≤ S 117 a.toNat ∧ S 117 a.toNat ≤ 1000) ∧ (0 ≤ S 117 b.toNat ∧ S 117 b.toNat ≤ 1000)) : qq_E xs (d + 4) 125 [.inr (115, none), .inl a, .inl b] S (some (zz_td (S 116 b.toNat - S 116 a.toNat) (S 117 b.toNat - S 117 a.toNat))) (S) := by
  have h : qq_p xs (d + 3) (mm_mr mm_m125) (mm_mk mm_m125) (fun r S' => r = some (zz_td (S 116 b.toNat - S 116 a.toNat) (S 117 b.toNat - S 117 a.toNat)) ∧ S' = S) 0 (qq_ent mm_m125 [.inr (115, none), .inl a, .inl b]) [] S := by
    refine qq_fsound hxs (sp_8_ok hxs (d + 0)) [] 200 ?_
    repeat' first | apply And.intro | intro _ | (simp only [qq_tab]) | (simp only [qq_pl])
    all_goals (first | rfl | omega | (unfold zz_abs; repeat' split <;> omega) | (unfold zz_td; grind) | grind [qq_in, zz_abs, zz_td])
  obtain ⟨r, S', hE, e1, e2⟩ := qq_call_of (y := 125) rfl (Nat.le_of_ble_eq_true rfl) h
  rw [e1, e2] at hE
  exact hE
def sp_9 : qq_P := fun y as S => match y, as with
  | 110, [.inl a, .inl lo, .inl hi] => some (qq_in a ∧ qq_in lo ∧ qq_in hi, some (zz_b (lo ≤ a ∧ a ≤ hi)), S)
  | 114, [.inl a, .inl lo, .inl hi] => some (qq_in a ∧ qq_in lo ∧ qq_in hi, some (zz_b (lo ≤ a ∧ a ≤ hi)), S)
  | 108, [.inr (3, none), .inl a] => some (True, some (a), qq_u S 3 9 a)
  | 109, [.inr (3, none), .inl a] => some (True, some (a), qq_u S 3 9 0)
  | 115, [.inr (115, none), .inl a] => some (qq_in a, some (a), qq_u S 115 0 (if a < 0 then a else 0))
  | 31, [.inr (4, none), .inl a] => some (qq_in a ∧ qq_in (S 4 0), some (zz_b (0 ≤ a ∧ a < S 4 0)), S)
  | 32, [.inr (4, none), .inl a] => some (qq_in a ∧ qq_in (S 4 1), some (zz_b (0 ≤ a ∧ a < S 4 1)), S)
  | 107, [.inr (3, none)] => some (True, some (S 3 9), S)
  | 177, [.inr (115, none)] => some (True, some (S 115 0), S)
  | 45, [.inr (48, none)] => some (True, some (S 48 0 * S 48 1), S)
  | 46, [.inr (48, none), .inl a] => some (0 ≤ a ∧ a < 10 ∧ qq_in (S 49 a.toNat), some (zz_b (¬ S 49 a.toNat = -1)), S)
  | 52, [.inr (48, none), .inl a, .inl b] => some (0 ≤ a ∧ a < 10 ∧ 0 ≤ b ∧ b < 10 ∧ (-8 ≤ S 49 a.toNat ∧ S 49 a.toNat ≤ 8 ∧ -8 ≤ S 49 b.toNat ∧ S 49 b.toNat ≤ 8 ∧ -8 ≤ S 50 a.toNat ∧ S 50 a.toNat ≤ 8 ∧ -8 ≤ S 50 b.toNat ∧ S 50 b.toNat ≤ 8), some (zz_dir (S 49 b.toNat - S 49 a.toNat) (S 50 b.toNat - S 50 a.toNat)), S)
  | 45, [.inr (56, none)] => some (True, some (S 56 0 * S 56 1), S)
  | 46, [.inr (56, none), .inl a] => some (0 ≤ a ∧ a < 10 ∧ qq_in (S 57 a.toNat), some (zz_b (¬ S 57 a.toNat = -1)), S)
  | 52, [.inr (56, none), .inl a, .inl b] => some (0 ≤ a ∧ a < 10 ∧ 0 ≤ b ∧ b < 10 ∧ (-8 ≤ S 57 a.toNat ∧ S 57 a.toNat ≤ 8 ∧ -8 ≤ S 57 b.toNat ∧ S 57 b.toNat ≤ 8 ∧ -8 ≤ S 58 a.toNat ∧ S 58 a.toNat ≤ 8 ∧ -8 ≤ S 58 b.toNat ∧ S 58 b.toNat ≤ 8), some (zz_dir (S 57 b.toNat - S 57 a.toNat) (S 58 b.toNat - S 58 a.toNat)), S)
  | 64, [.inl a, .inl b] => some (-100 ≤ a ∧ a ≤ 100 ∧ -100 ≤ b ∧ b ≤ 100, some (if 4 < qq_and (a - b) 7 then 8 - qq_and (a - b) 7 else qq_and (a - b) 7), S)
  | 111, [.inl a] => some (qq_in a, some (zz_b (0 ≤ a ∧ a ≤ 100)), S)
  | 116, [.inr (115, none), .inl a] => some (qq_in a ∧ 0 ≤ S 115 1 ∧ S 115 1 ≤ 10, some (zz_b (0 ≤ a ∧ a < S 115 1)), S)
  | 92, [.inr (3, none), .inl a] => some (qq_in a, some (if 1 ≤ a ∧ a ≤ 4 then S 52 3 else -1), if 1 ≤ a ∧ a ≤ 4 then qq_u (qq_u S 52 3 a) 3 9 0 else qq_u S 3 9 (-1))
  | 132, [.inr (115, none), .inl a] => some (qq_in a ∧ 0 ≤ S 115 14 ∧ S 115 14 ≤ 4, some (if 1 ≤ a ∧ a ≤ 4 then S 115 14 else -1), if 1 ≤ a ∧ a ≤ 4 then qq_u (qq_u S 115 14 a) 115 0 0 else qq_u S 115 0 (-1))
  | 93, [.inr (3, none), .inl a, .inl b, .inl c] => some (qq_in a ∧ qq_in b ∧ qq_in c, some (if 0 ≤ a ∧ a ≤ 100 ∧ 0 ≤ b ∧ b ≤ 100 ∧ 0 ≤ c ∧ c ≤ 100 then 0 else -1), if 0 ≤ a ∧ a ≤ 100 ∧ 0 ≤ b ∧ b ≤ 100 ∧ 0 ≤ c ∧ c ≤ 100 then qq_u (qq_u (qq_u (qq_u S 52 0 a) 52 1 b) 52 2 c) 3 9 0 else qq_u S 3 9 (-1))
  | 133, [.inr (115, none), .inl a, .inl b, .inl c] => some (qq_in a ∧ qq_in b ∧ qq_in c, some (if 0 ≤ a ∧ a ≤ 100 ∧ 0 ≤ b ∧ b ≤ 100 ∧ 0 ≤ c ∧ c ≤ 100 then 0 else -1), if 0 ≤ a ∧ a ≤ 100 ∧ 0 ≤ b ∧ b ≤ 100 ∧ 0 ≤ c ∧ c ≤ 100 then qq_u (qq_u (qq_u (qq_u S 115 15 a) 115 16 b) 115 17 c) 115 0 0 else qq_u S 115 0 (-1))
  | 47, [.inr (48, none), .inl a] => some (0 ≤ a ∧ a < 10 ∧ qq_in (S 49 a.toNat), some (if S 49 a.toNat = -1 then -1 else S 50 a.toNat * S 48 0 + S 49 a.toNat), S)
  | 48, [.inr (48, none), .inl a, .inl p] => some (0 ≤ a ∧ a < 10 ∧ qq_in p ∧ 0 ≤ S 48 0 ∧ S 48 0 ≤ 8, none, if p < 0 ∨ S 48 0 < 1 then qq_u (qq_u S 49 a.toNat (-1)) 50 a.toNat (-1) else qq_u (qq_u S 49 a.toNat (p % S 48 0)) 50 a.toNat (p / S 48 0))
  | 47, [.inr (56, none), .inl a] => some (0 ≤ a ∧ a < 10 ∧ qq_in (S 57 a.toNat), some (if S 57 a.toNat = -1 then -1 else S 58 a.toNat * S 56 0 + S 57 a.toNat), S)
  | 48, [.inr (56, none), .inl a, .inl p] => some (0 ≤ a ∧ a < 10 ∧ qq_in p ∧ 0 ≤ S 56 0 ∧ S 56 0 ≤ 8, none, if p < 0 ∨ S 56 0 < 1 then qq_u (qq_u S 57 a.toNat (-1)) 58 a.toNat (-1) else qq_u (qq_u S 57 a.toNat (p % S 56 0)) 58 a.toNat (p / S 56 0))
  | 35, [.inr (4, none)] => some (True, some (S 4 1), qq_u S 4 1 (S 4 1 + 1))
  | 50, [.inr (48, none)] => some (∀ i : Nat, i < 10 → qq_in (S 49 i), some (zz_cnt (S 49) (-1) 10), S)
  | 51, [.inr (48, none)] => some (∀ i : Nat, i < 10 → qq_in (S 51 i), some (zz_cnt (S 51) 0 10), S)
  | 44, [.inr (48, none), .inl w, .inl h] => some (True, none, zz_rs (qq_u (qq_u S 48 0 w) 48 1 h) 49 50 51 10)
  | 44, [.inr (56, none), .inl w, .inl h] => some (True, none, zz_rs (qq_u (qq_u S 56 0 w) 56 1 h) 57 58 59 10)
  | 33, [.inr (4, none), .inl a, .inl b] => some (qq_in a ∧ qq_in b ∧ (0 ≤ S 4 0 ∧ S 4 0 ≤ 10) ∧ (∀ i : Nat, (i : Int) < S 4 0 → qq_in (S 5 i) ∧ qq_in (S 6 i)), some (zz_b (zz_has (S 5) (S 6) a b (S 4 0).toNat = true)), S)
  | 34, [.inr (4, none), .inl a, .inl b] => some (0 ≤ S 4 0 ∧ S 4 0 < 10, some (S 4 0), qq_u (qq_u (qq_u S 5 (S 4 0).toNat a) 6 (S 4 0).toNat b) 4 0 (S 4 0 + 1))
  | 49, [.inr (48, none), .inr (102, none)] => some (∀ i : Nat, i < 10 → S 105 i = 0 ∨ S 105 i = 1, none, zz_cp (qq_u (qq_u S 48 0 (S 102 0)) 48 1 (S 102 1)) 49 50 51 103 104 105 10)
  | 49, [.inr (48, none), .inr (106, none)] => some (∀ i : Nat, i < 10 → S 109 i = 0 ∨ S 109 i = 1, none, zz_cp (qq_u (qq_u S 48 0 (S 106 0)) 48 1 (S 106 1)) 49 50 51 107 108 109 10)
  | 49, [.inr (48, none), .inr (110, none)] => some (∀ i : Nat, i < 10 → S 113 i = 0 ∨ S 113 i = 1, none, zz_cp (qq_u (qq_u S 48 0 (S 110 0)) 48 1 (S 110 1)) 49 50 51 111 112 113 10)
  | 49, [.inr (102, none), .inr (48, none)] => some (∀ i : Nat, i < 10 → S 51 i = 0 ∨ S 51 i = 1, none, zz_cp (qq_u (qq_u S 102 0 (S 48 0)) 102 1 (S 48 1)) 103 104 105 49 50 51 10)
  | 49, [.inr (106, none), .inr (48, none)] => some (∀ i : Nat, i < 10 → S 51 i = 0 ∨ S 51 i = 1, none, zz_cp (qq_u (qq_u S 106 0 (S 48 0)) 106 1 (S 48 1)) 107 108 109 49 50 51 10)
  | 49, [.inr (110, none), .inr (48, none)] => some (∀ i : Nat, i < 10 → S 51 i = 0 ∨ S 51 i = 1, none, zz_cp (qq_u (qq_u S 110 0 (S 48 0)) 110 1 (S 48 1)) 111 112 113 49 50 51 10)
  | 123, [.inl a] => some (-100000 ≤ a ∧ a ≤ 100000, some (zz_abs a), S)
  | 124, [.inl a, .inl b] => some (qq_in a ∧ qq_in b, some (if 0 < a then (if 0 < b then 1 else 7) else (if 0 < b then 3 else 5)), S)
  | 125, [.inr (115, none), .inl a, .inl b] => some ((0 ≤ a ∧ a < 10 ∧ 0 ≤ b ∧ b < 10) ∧ (0 ≤ S 116 a.toNat ∧ S 116 a.toNat ≤ 1000) ∧ (0 ≤ S 116 b.toNat ∧ S 116 b.toNat ≤ 1000) ∧ (0 ≤ S 117 a.toNat ∧ S 117 a.toNat ≤ 1000) ∧ (0 ≤ S 117 b.toNat ∧ S 117 b.toNat ≤ 1000), some (zz_td (S 116 b.toNat - S 116 a.toNat) (S 117 b.toNat - S 117 a.toNat)), S)
  | _, _ => none
theorem sp_9_ok {xs : List Int32} (hxs : xs.length ≤ 2048) (d : Nat) : qq_ok xs (d + 4) sp_9 := by
  intro y as S pre r S2 h hp
  unfold sp_9 at h
  split at h
  · cases h; exact f110 hxs (d + 3) S _ _ _ hp
  · cases h; exact f114 hxs (d + 3) S _ _ _ hp
  · cases h; exact f108 hxs (d + 3) S _ hp
  · cases h; exact f109 hxs (d + 3) S _ hp
  · cases h; exact f115 hxs (d + 3) S _ hp
  · cases h; exact f31 hxs (d + 3) S _ hp
  · cases h; exact f32 hxs (d + 3) S _ hp
  · cases h; exact f107 hxs (d + 3) S hp
  · cases h; exact f177 hxs (d + 3) S hp
  · cases h; exact f45_48 hxs (d + 3) S hp
  · cases h; exact f46_48 hxs (d + 3) S _ hp
  · cases h; exact f52_48 hxs (d + 3) S _ _ hp
  · cases h; exact f45_56 hxs (d + 3) S hp
  · cases h; exact f46_56 hxs (d + 3) S _ hp
  · cases h; exact f52_56 hxs (d + 3) S _ _ hp
  · cases h; exact f64 hxs (d + 3) S _ _ hp
  · cases h; exact f111 hxs (d + 2) S _ hp
  · cases h; exact f116 hxs (d + 2) S _ hp
  · cases h; exact f92 hxs (d + 2) S _ hp
  · cases h; exact f132 hxs (d + 2) S _ hp
  · cases h; exact f93 hxs (d + 1) S _ _ _ hp
  · cases h; exact f133 hxs (d + 2) S _ _ _ hp
  · cases h; exact f47_48 hxs (d + 2) S _ hp
  · cases h; exact f48_48 hxs (d + 3) S _ _ hp
  · cases h; exact f47_56 hxs (d + 2) S _ hp
  · cases h; exact f48_56 hxs (d + 3) S _ _ hp
  · cases h; exact f35 hxs (d + 3) S hp
  · cases h; exact f50 hxs (d + 2) S hp
  · cases h; exact f51 hxs (d + 2) S hp
  · cases h; exact f44_48 hxs (d + 3) S _ _ hp
  · cases h; exact f44_56 hxs (d + 3) S _ _ hp
  · cases h; exact f33 hxs (d + 3) S _ _ hp
  · cases h; exact f34 hxs (d + 3) S _ _ hp
  · cases h; exact f49_48_102 hxs (d + 3) S hp
  · cases h; exact f49_48_106 hxs (d + 3) S hp
  · cases h; exact f49_48_110 hxs (d + 3) S hp
  · cases h; exact f49_102_48 hxs (d + 3) S hp
  · cases h; exact f49_106_48 hxs (d + 3) S hp
  · cases h; exact f49_110_48 hxs (d + 3) S hp
  · cases h; exact f123 hxs (d + 3) S _ hp
  · cases h; exact f124 hxs (d + 3) S _ _ hp
  · cases h; exact f125 hxs (d + 0) S _ _ hp
  · cases h
set_option maxRecDepth 20000 in
theorem f89 {xs : List Int32} (hxs : xs.length ≤ 2048) (d : Nat) (S : qq_S) (a : Int) (b : Int) (hp : qq_in a ∧ qq_in b ∧ (0 ≤ S 4 2 ∧ S 4 2 ≤ 45)) : qq_E xs (d + 4) 89 [.inr (3, none), .inl a, .inl b] S (some (if a = -1 ∧ b = 0 then S 4 2 else if ¬ (0 ≤ a ∧ a < S 4 2) then -1 else if b = 0 then S 22 a.toNat else if b = 1 then S 23 a.toNat else if b = 2 then S 24 a.toNat else -1)) (S) := by
  have h : qq_p xs (d + 3) (mm_mr mm_m89) (mm_mk mm_m89) (fun r S' => r = some (if a = -1 ∧ b = 0 then S 4 2 else if ¬ (0 ≤ a ∧ a < S 4 2) then -1 else if b = 0 then S 22 a.toNat else if b = 1 then S 23 a.toNat else if b = 2 then S 24 a.toNat else -1) ∧ S' = S) 0 (qq_ent mm_m89 [.inr (3, none), .inl a, .inl b]) [] S := by
    refine qq_fsound hxs (sp_7_ok hxs (d + 0)) [] 200 ?_
    repeat' first | apply And.intro | intro _ | (simp only [qq_tab]) | (simp only [qq_pl])
    all_goals (first | rfl | omega | grind [qq_in, zz_b])
  obtain ⟨r, S', hE, e1, e2⟩ := qq_call_of (y := 89) rfl (Nat.le_of_ble_eq_true rfl) h
  rw [e1, e2] at hE
  exact hE
set_option maxRecDepth 20000 in
theorem f126 {xs : List Int32} (hxs : xs.length ≤ 2048) (d : Nat) (S : qq_S) (a : Int) (b : Int) (hp : qq_in a ∧ qq_in b ∧ (0 ≤ S 115 3 ∧ S 115 3 ≤ 45) ∧ (0 ≤ a ∧ a < S 115 3 → (0 ≤ S 120 a.toNat ∧ S 120 a.toNat < 10 ∧ 0 ≤ S 121 a.toNat ∧ S 121 a.toNat < 10) ∧ (0 ≤ S 116 (S 120 a.toNat).toNat ∧ S 116 (S 120 a.toNat).toNat ≤ 1000) ∧ (0 ≤ S 116 (S 121 a.toNat).toNat ∧ S 116 (S 121 a.toNat).toNat ≤ 1000) ∧ (0 ≤ S 117 (S 120 a.toNat).toNat ∧ S 117 (S 120 a.toNat).toNat ≤ 1000) ∧ (0 ≤ S 117 (S 121 a.toNat).toNat ∧ S 117 (S 121 a.toNat).toNat ≤ 1000))) : qq_E xs (d + 5) 126 [.inr (115, none), .inl a, .inl b] S (some (if a = -1 ∧ b = 0 then S 115 3 else if ¬ (0 ≤ a ∧ a < S 115 3) then -1 else if b = 0 then S 120 a.toNat else if b = 1 then S 121 a.toNat else if b = 2 then zz_td (S 116 (S 121 a.toNat).toNat - S 116 (S 120 a.toNat).toNat) (S 117 (S 121 a.toNat).toNat - S 117 (S 120 a.toNat).toNat) else -1)) (S) := by
  have h : qq_p xs (d + 4) (mm_mr mm_m126) (mm_mk mm_m126) (fun r S' => r = some (if a = -1 ∧ b = 0 then S 115 3 else if ¬ (0 ≤ a ∧ a < S 115 3) then -1 else if b = 0 then S 120 a.toNat else if b = 1 then S 121 a.toNat else if b = 2 then zz_td (S 116 (S 121 a.toNat).toNat - S 116 (S 120 a.toNat).toNat) (S 117 (S 121 a.toNat).toNat - S 117 (S 120 a.toNat).toNat) else -1) ∧ S' = S) 0 (qq_ent mm_m126 [.inr (115, none), .inl a, .inl b]) [] S := by
    refine qq_fsound hxs (sp_9_ok hxs (d + 0)) [] 200 ?_
    repeat' first | apply And.intro | intro _ | (simp only [qq_tab]) | (simp only [qq_pl])
    all_goals (first | rfl | omega | grind [qq_in, zz_b])
  obtain ⟨r, S', hE, e1, e2⟩ := qq_call_of (y := 126) rfl (Nat.le_of_ble_eq_true rfl) h
  rw [e1, e2] at hE
  exact hE
theorem zz_td_bd (x y : Int) : 0 ≤ zz_td x y ∧ zz_td x y ≤ 7 := by
  unfold zz_td
  repeat' split
  all_goals omega
theorem o_edge {xs : List Int32} (hxs : xs.length ≤ 2048) (S : qq_S) (a b : Int) (ha : qq_in a) (hb : qq_in b) (hI : inv S) : qq_op xs 29 89 126 [.inl a, .inl b] S := by
  have hI0 := hI
  obtain ⟨h1, h2, h3, h4, h5, h6, h7, h8, h9, h10, h11⟩ := hI
  have g1 := h1
  unfold i_net at g1
  have g3 := h3.1
  have q : 0 ≤ a ∧ a < S 4 2 → _ := fun z => h3.2.1 a.toNat (by omega)
  have e1 := f89 hxs 0 S a b ⟨ha, hb, by omega⟩
  have e2 := f126 hxs 0 S a b ⟨ha, hb, by omega, fun z => by
    have q1 := q (by omega)
    have x1 := g1.2.1 (S 22 a.toNat).toNat (by omega)
    have x2 := g1.2.1 (S 23 a.toNat).toNat (by omega)
    rw [q1.2.2.2.1, q1.2.2.2.2.1]
    omega⟩
  rw [show S 115 3 = S 4 2 by omega] at e2
  by_cases c0 : a = -1 ∧ b = 0
  · rw [if_pos c0] at e1 e2
    exact qq_op_of e1 e2 (by decide) (by decide) rfl (by unfold qq_in; omega) hI0
  · rw [if_neg c0] at e1 e2
    by_cases c1 : 0 ≤ a ∧ a < S 4 2
    · have q1 := q c1
      have x1 := g1.2.1 (S 22 a.toNat).toNat (by omega)
      have x2 := g1.2.1 (S 23 a.toNat).toNat (by omega)
      have t1 := zz_td_bd (S 5 (S 23 a.toNat).toNat - S 5 (S 22 a.toNat).toNat) (S 6 (S 23 a.toNat).toNat - S 6 (S 22 a.toNat).toNat)
      rw [if_neg (show ¬ ¬ (0 ≤ a ∧ a < S 4 2) by omega)] at e1 e2
      rw [q1.2.2.2.1, q1.2.2.2.2.1, x1.2.2.2.2.1, x1.2.2.2.2.2, x2.2.2.2.2.1, x2.2.2.2.2.2, ← q1.2.2.2.2.2.1] at e2
      refine qq_op_of e1 e2 (by decide) (by decide) rfl ?_ hI0
      unfold qq_in
      rw [← q1.2.2.2.2.2.1] at t1
      repeat' split
      all_goals omega
    · rw [if_pos c1] at e1 e2
      exact qq_op_of e1 e2 (by decide) (by decide) rfl (by unfold qq_in; omega) hI0
end
section
set_option maxRecDepth 20000 in
theorem f42 {xs : List Int32} (hxs : xs.length ≤ 2048) (d : Nat) (S : qq_S) (a : Int) (b : Int) (hp : qq_in a ∧ qq_in b) : qq_E xs (d + 1) 42 [.inl a, .inl b] S (some (zz_half a b)) (S) := by
  have h : qq_p xs (d + 0) (mm_mr mm_m42) (mm_mk mm_m42) (fun r S' => r = some (zz_half a b) ∧ S' = S) 0 (qq_ent mm_m42 [.inl a, .inl b]) [] S := by
    refine qq_fsound hxs (sp_0_ok hxs (d + 0)) [] 200 ?_
    repeat' first | apply And.intro | intro _ | (simp only [qq_tab]) | (simp only [qq_pl])
    all_goals (first | rfl | omega | grind [qq_in, zz_half])
  obtain ⟨r, S', hE, e1, e2⟩ := qq_call_of (y := 42) rfl (Nat.le_of_ble_eq_true rfl) h
  rw [e1, e2] at hE
  exact hE
set_option maxRecDepth 20000 in
theorem f127 {xs : List Int32} (hxs : xs.length ≤ 2048) (d : Nat) (S : qq_S) (a : Int) (b : Int) (hp : (0 ≤ a ∧ a < 10 ∧ 0 ≤ b ∧ b < 10) ∧ (0 ≤ S 116 a.toNat ∧ S 116 a.toNat ≤ 1000) ∧ (0 ≤ S 116 b.toNat ∧ S 116 b.toNat ≤ 1000) ∧ (0 ≤ S 117 a.toNat ∧ S 117 a.toNat ≤ 1000) ∧ (0 ≤ S 117 b.toNat ∧ S 117 b.toNat ≤ 1000)) : qq_E xs (d + 1) 127 [.inr (115, none), .inl a, .inl b] S (some (zz_half (S 116 b.toNat - S 116 a.toNat) (S 117 b.toNat - S 117 a.toNat))) (S) := by
  have h : qq_p xs (d + 0) (mm_mr mm_m127) (mm_mk mm_m127) (fun r S' => r = some (zz_half (S 116 b.toNat - S 116 a.toNat) (S 117 b.toNat - S 117 a.toNat)) ∧ S' = S) 0 (qq_ent mm_m127 [.inr (115, none), .inl a, .inl b]) [] S := by
    refine qq_fsound hxs (sp_0_ok hxs (d + 0)) [] 200 ?_
    repeat' first | apply And.intro | intro _ | (simp only [qq_tab]) | (simp only [qq_pl])
    all_goals (first | rfl | omega | grind [qq_in, zz_half])
  obtain ⟨r, S', hE, e1, e2⟩ := qq_call_of (y := 127) rfl (Nat.le_of_ble_eq_true rfl) h
  rw [e1, e2] at hE
  exact hE
set_option maxRecDepth 20000 in
theorem f90 {xs : List Int32} (hxs : xs.length ≤ 2048) (d : Nat) (S : qq_S) (a : Int) (b : Int) (hp : qq_in a ∧ qq_in b ∧ (0 ≤ S 4 0 ∧ S 4 0 ≤ 10) ∧ (0 ≤ a ∧ a < S 4 0 → 0 ≤ S 25 a.toNat ∧ S 25 a.toNat ≤ 10)) : qq_E xs (d + 4) 90 [.inr (3, none), .inl a, .inl b] S (some (if ¬ (0 ≤ a ∧ a < S 4 0) then -1 else if b = -1 then S 25 a.toNat else if 0 ≤ b ∧ b < S 25 a.toNat then S (26 + 1 + a.toNat) b.toNat else -1)) (S) := by
  have h : qq_p xs (d + 3) (mm_mr mm_m90) (mm_mk mm_m90) (fun r S' => r = some (if ¬ (0 ≤ a ∧ a < S 4 0) then -1 else if b = -1 then S 25 a.toNat else if 0 ≤ b ∧ b < S 25 a.toNat then S (26 + 1 + a.toNat) b.toNat else -1) ∧ S' = S) 0 (qq_ent mm_m90 [.inr (3, none), .inl a, .inl b]) [] S := by
    refine qq_fsound hxs (sp_7_ok hxs (d + 0)) [] 200 ?_
    repeat' first | apply And.intro | intro _ | (simp only [qq_tab]) | (simp only [qq_pl])
    all_goals (first | rfl | omega | grind [qq_in, zz_b])
  obtain ⟨r, S', hE, e1, e2⟩ := qq_call_of (y := 90) rfl (Nat.le_of_ble_eq_true rfl) h
  rw [e1, e2] at hE
  exact hE
end
section
/-- 1 where the step xa, ya comes ahead of xb, yb (of numbers a, b) -/
def zz_ah (xa ya xb yb a b : Int) : Int := if zz_half xa ya = zz_half xb yb then (if xa * yb - ya * xb = 0 then (if a < b then 1 else 0) else if 0 < xa * yb - ya * xb then 1 else 0) else if zz_half xa ya < zz_half xb yb then 1 else 0
theorem zz_mb {x y : Int} (hx : -1000 ≤ x ∧ x ≤ 1000) (hy : -1000 ≤ y ∧ y ≤ 1000) : -1000000 ≤ x * y ∧ x * y ≤ 1000000 := by
  have h : (x * y).natAbs ≤ 1000000 := by
    rw [Int.natAbs_mul]
    exact Nat.mul_le_mul (show x.natAbs ≤ 1000 by omega) (show y.natAbs ≤ 1000 by omega)
  omega
theorem zz_hb (x y : Int) : zz_half x y = 0 ∨ zz_half x y = 1 := by
  unfold zz_half
  split <;> simp
def sp_10 : qq_P := fun y as S => match y, as with
  | 42, [.inl a, .inl b] => some (qq_in a ∧ qq_in b, some (zz_half a b), S)
  | 127, [.inr (115, none), .inl a, .inl b] => some ((0 ≤ a ∧ a < 10 ∧ 0 ≤ b ∧ b < 10) ∧ (0 ≤ S 116 a.toNat ∧ S 116 a.toNat ≤ 1000) ∧ (0 ≤ S 116 b.toNat ∧ S 116 b.toNat ≤ 1000) ∧ (0 ≤ S 117 a.toNat ∧ S 117 a.toNat ≤ 1000) ∧ (0 ≤ S 117 b.toNat ∧ S 117 b.toNat ≤ 1000), some (zz_half (S 116 b.toNat - S 116 a.toNat) (S 117 b.toNat - S 117 a.toNat)), S)
  | _, _ => sp_9 y as S
theorem sp_10_ok {xs : List Int32} (hxs : xs.length ≤ 2048) (d : Nat) : qq_ok xs (d + 4) sp_10 := by
  intro y as S pre r S2 h hp
  unfold sp_10 at h
  split at h
  · cases h; exact f42 hxs (d + 3) S _ _ hp
  · cases h; exact f127 hxs (d + 3) S _ _ hp
  · exact sp_9_ok hxs (d + 0) y as S pre r S2 h hp
set_option maxRecDepth 20000 in
theorem f41 {xs : List Int32} (hxs : xs.length ≤ 2048) (d : Nat) (S : qq_S) (s : Int) (a : Int) (b : Int) (hp : (0 ≤ s ∧ s < 10 ∧ 0 ≤ a ∧ a < 10 ∧ 0 ≤ b ∧ b < 10) ∧ (0 ≤ S 5 s.toNat ∧ S 5 s.toNat ≤ 1000) ∧ (0 ≤ S 5 a.toNat ∧ S 5 a.toNat ≤ 1000) ∧ (0 ≤ S 5 b.toNat ∧ S 5 b.toNat ≤ 1000) ∧ (0 ≤ S 6 s.toNat ∧ S 6 s.toNat ≤ 1000) ∧ (0 ≤ S 6 a.toNat ∧ S 6 a.toNat ≤ 1000) ∧ (0 ≤ S 6 b.toNat ∧ S 6 b.toNat ≤ 1000)) : qq_E xs (d + 5) 41 [.inr (4, none), .inl s, .inl a, .inl b] S (some (zz_ah (S 5 a.toNat - S 5 s.toNat) (S 6 a.toNat - S 6 s.toNat) (S 5 b.toNat - S 5 s.toNat) (S 6 b.toNat - S 6 s.toNat) a b)) (S) := by
  have h : qq_p xs (d + 4) (mm_mr mm_m41) (mm_mk mm_m41) (fun r S' => r = some (zz_ah (S 5 a.toNat - S 5 s.toNat) (S 6 a.toNat - S 6 s.toNat) (S 5 b.toNat - S 5 s.toNat) (S 6 b.toNat - S 6 s.toNat) a b) ∧ S' = S) 0 (qq_ent mm_m41 [.inr (4, none), .inl s, .inl a, .inl b]) [] S := by
    refine qq_fsound hxs (sp_10_ok hxs (d + 0)) [] 200 ?_
    repeat' first | apply And.intro | intro _ | (simp only [qq_tab]) | (simp only [qq_pl])
    all_goals (first | rfl | omega | exact Or.inl trivial | exact Or.inr trivial | (have m1 := zz_mb (x := S 5 a.toNat - S 5 s.toNat) (y := S 6 b.toNat - S 6 s.toNat) (by omega) (by omega); have m2 := zz_mb (x := S 6 a.toNat - S 6 s.toNat) (y := S 5 b.toNat - S 5 s.toNat) (by omega) (by omega); have b1 := zz_hb (S 5 a.toNat - S 5 s.toNat) (S 6 a.toNat - S 6 s.toNat); have b2 := zz_hb (S 5 b.toNat - S 5 s.toNat) (S 6 b.toNat - S 6 s.toNat); first | omega | (unfold zz_ah; grind)))
  obtain ⟨r, S', hE, e1, e2⟩ := qq_call_of (y := 41) rfl (Nat.le_of_ble_eq_true rfl) h
  rw [e1, e2] at hE
  exact hE
set_option maxRecDepth 20000 in
theorem f128 {xs : List Int32} (hxs : xs.length ≤ 2048) (d : Nat) (S : qq_S) (s : Int) (a : Int) (b : Int) (hp : (0 ≤ s ∧ s < 10 ∧ 0 ≤ a ∧ a < 10 ∧ 0 ≤ b ∧ b < 10) ∧ (0 ≤ S 116 s.toNat ∧ S 116 s.toNat ≤ 1000) ∧ (0 ≤ S 116 a.toNat ∧ S 116 a.toNat ≤ 1000) ∧ (0 ≤ S 116 b.toNat ∧ S 116 b.toNat ≤ 1000) ∧ (0 ≤ S 117 s.toNat ∧ S 117 s.toNat ≤ 1000) ∧ (0 ≤ S 117 a.toNat ∧ S 117 a.toNat ≤ 1000) ∧ (0 ≤ S 117 b.toNat ∧ S 117 b.toNat ≤ 1000)) : qq_E xs (d + 5) 128 [.inr (115, none), .inl s, .inl a, .inl b] S (some (zz_ah (S 116 a.toNat - S 116 s.toNat) (S 117 a.toNat - S 117 s.toNat) (S 116 b.toNat - S 116 s.toNat) (S 117 b.toNat - S 117 s.toNat) a b)) (S) := by
  have h : qq_p xs (d + 4) (mm_mr mm_m128) (mm_mk mm_m128) (fun r S' => r = some (zz_ah (S 116 a.toNat - S 116 s.toNat) (S 117 a.toNat - S 117 s.toNat) (S 116 b.toNat - S 116 s.toNat) (S 117 b.toNat - S 117 s.toNat) a b) ∧ S' = S) 0 (qq_ent mm_m128 [.inr (115, none), .inl s, .inl a, .inl b]) [] S := by
    refine qq_fsound hxs (sp_10_ok hxs (d + 0)) [] 200 ?_
    repeat' first | apply And.intro | intro _ | (simp only [qq_tab]) | (simp only [qq_pl])
    all_goals (first | rfl | omega | exact Or.inl trivial | exact Or.inr trivial | (have m1 := zz_mb (x := S 116 a.toNat - S 116 s.toNat) (y := S 117 b.toNat - S 117 s.toNat) (by omega) (by omega); have m2 := zz_mb (x := S 117 a.toNat - S 117 s.toNat) (y := S 116 b.toNat - S 116 s.toNat) (by omega) (by omega); have b1 := zz_hb (S 116 a.toNat - S 116 s.toNat) (S 117 a.toNat - S 117 s.toNat); have b2 := zz_hb (S 116 b.toNat - S 116 s.toNat) (S 117 b.toNat - S 117 s.toNat); first | omega | (unfold zz_ah; grind)))
  obtain ⟨r, S', hE, e1, e2⟩ := qq_call_of (y := 128) rfl (Nat.le_of_ble_eq_true rfl) h
  rw [e1, e2] at hE
  exact hE
end
section
theorem qq_virt {xs : List Int32} {d k a b c q pc len w k9 : Nat} {rt : Option FieldType} {code : List mm_E} {K : qq_K} {as st s' : List qq_V} {ls : qq_L} {S S' : qq_S} {r : Option Int} {fs : List (Option Nat)} (hat : mm_at code pc = some (pc, .invokevirtual k9, len, a, b, c, w)) (hE : qq_E xs k a (.inr (q, none) :: as) S r S') (hk : k ≤ d) (hst : st = as.reverse ++ .inr (q, none) :: s') (hb : as.length = b) (hq : qq_at q = some (.inl (c, fs))) (hs : s'.length ≤ 8) (hG : qq_p xs d rt code K (pc + 3) ls ((r.map Sum.inl).toList ++ s') S') : qq_p xs d rt code K pc ls st S := by
  obtain ⟨n, hn⟩ := hG
  obtain ⟨h3, hg9⟩ := qq_get S hq
  have hE9 := qq_up hk hE
  unfold qq_E at hE9
  refine ⟨n + 1, _, _, _, _, _, _, hat, as.map qq_v, q - 3, s'.map qq_v, _, c, r.map Int32.ofInt, qq_e S', ?_, by rw [List.length_map]; exact hb, by rw [List.length_map]; exact hs, hg9, rfl, ?_, by rw [qq_len, qq_len]; omega, by rw [qq_size, qq_size]; omega, by rw [qq_len]; omega, by rw [qq_size]; omega, ?_⟩
  · rw [Nat.sub_add_cancel h3, hst, List.map_append, List.map_reverse]
    rfl
  · rw [Nat.sub_add_cancel h3]
    exact hE9
  · cases r <;> exact hn
/-- the operations that are still to be tied -/
def qq_Rest (xs : List Int32) : Prop :=
  (∀ (S : qq_S) (a : Int) (b : Int), qq_in a → qq_in b → inv S → qq_op xs 29 87 119 [.inl a, .inl b] S) ∧
  (∀ (S : qq_S) (a : Int) (b : Int), qq_in a → qq_in b → inv S → qq_op xs 29 90 130 [.inl a, .inl b] S) ∧
  (∀ (S : qq_S) (a : Int), qq_in a → inv S → qq_op xs 29 97 150 [.inl a] S) ∧
  (∀ (S : qq_S) (a : Int), qq_in a → inv S → qq_op xs 29 98 156 [.inl a] S) ∧
  (∀ (S : qq_S), inv S → qq_op xs 29 99 159 [] S) ∧
  (∀ (S : qq_S), inv S → qq_op xs 29 100 162 [] S) ∧
  (∀ (S : qq_S), inv S → qq_op xs 29 102 172 [] S)
set_option maxRecDepth 20000 in
theorem lw_station {xs : List Int32} (hxs : xs.length ≤ 2048) (R : qq_Rest xs) (S : qq_S) (i : Int) (h0 : 0 ≤ i) (hl : i + 4 ≤ (mm_ro xs 0).length) (hI : inv S) (kk : ∀ S', inv S' → qq_p xs 30 (some .boolean) mm_kl (fun r _ => r = some 1) 18 [some (.inr (0, none)), some (.inr (3, none)), some (.inr (115, none)), some (.inl (i + 4))] [] S') : qq_p xs 30 (some .boolean) mm_kl (fun r _ => r = some 1) 140 [some (.inr (0, none)), some (.inr (3, none)), some (.inr (115, none)), some (.inl i)] [] S := by
  refine qq_fsound hxs (sp_0_ok hxs 30) [18] 100 ?_
  repeat' first | apply And.intro | intro _
  all_goals first | omega | skip
  obtain ⟨r, S1, S2, e1, e2, hr, hI2⟩ := o_station hxs S _ _ (qq_inT _) (qq_inT _) hI
  refine qq_virt rfl e1 (by decide) rfl rfl rfl (Nat.le_of_ble_eq_true rfl) ?_
  refine qq_fsound hxs (sp_0_ok hxs 30) [18] 100 ?_
  repeat' first | apply And.intro | intro _
  all_goals first | omega | skip
  refine qq_virt rfl e2 (by decide) rfl rfl rfl (Nat.le_of_ble_eq_true rfl) ?_
  refine qq_fsound hxs (sp_0_ok hxs 30) [18] 100 ?_
  repeat' first | apply And.intro | intro _
  all_goals first | exact kk _ hI2 | exact hr.1 | exact hr.2 | contradiction | omega
set_option maxRecDepth 20000 in
theorem lw_line {xs : List Int32} (hxs : xs.length ≤ 2048) (R : qq_Rest xs) (S : qq_S) (i : Int) (h0 : 0 ≤ i) (hl : i + 4 ≤ (mm_ro xs 0).length) (hI : inv S) (kk : ∀ S', inv S' → qq_p xs 30 (some .boolean) mm_kl (fun r _ => r = some 1) 18 [some (.inr (0, none)), some (.inr (3, none)), some (.inr (115, none)), some (.inl (i + 4))] [] S') : qq_p xs 30 (some .boolean) mm_kl (fun r _ => r = some 1) 173 [some (.inr (0, none)), some (.inr (3, none)), some (.inr (115, none)), some (.inl i)] [] S := by
  refine qq_fsound hxs (sp_0_ok hxs 30) [18] 100 ?_
  repeat' first | apply And.intro | intro _
  all_goals first | omega | skip
  obtain ⟨r, S1, S2, e1, e2, hr, hI2⟩ := o_line hxs S  hI
  refine qq_virt rfl e1 (by decide) rfl rfl rfl (Nat.le_of_ble_eq_true rfl) ?_
  refine qq_fsound hxs (sp_0_ok hxs 30) [18] 100 ?_
  repeat' first | apply And.intro | intro _
  all_goals first | omega | skip
  refine qq_virt rfl e2 (by decide) rfl rfl rfl (Nat.le_of_ble_eq_true rfl) ?_
  refine qq_fsound hxs (sp_0_ok hxs 30) [18] 100 ?_
  repeat' first | apply And.intro | intro _
  all_goals first | exact kk _ hI2 | exact hr.1 | exact hr.2 | contradiction | omega
set_option maxRecDepth 20000 in
theorem lw_lead {xs : List Int32} (hxs : xs.length ≤ 2048) (R : qq_Rest xs) (S : qq_S) (i : Int) (h0 : 0 ≤ i) (hl : i + 4 ≤ (mm_ro xs 0).length) (hI : inv S) (kk : ∀ S', inv S' → qq_p xs 30 (some .boolean) mm_kl (fun r _ => r = some 1) 18 [some (.inr (0, none)), some (.inr (3, none)), some (.inr (115, none)), some (.inl (i + 4))] [] S') : qq_p xs 30 (some .boolean) mm_kl (fun r _ => r = some 1) 186 [some (.inr (0, none)), some (.inr (3, none)), some (.inr (115, none)), some (.inl i)] [] S := by
  refine qq_fsound hxs (sp_0_ok hxs 30) [18] 100 ?_
  repeat' first | apply And.intro | intro _
  all_goals first | omega | skip
  obtain ⟨r, S1, S2, e1, e2, hr, hI2⟩ := R.1 S _ _ (qq_inT _) (qq_inT _) hI
  refine qq_virt rfl e1 (by decide) rfl rfl rfl (Nat.le_of_ble_eq_true rfl) ?_
  refine qq_fsound hxs (sp_0_ok hxs 30) [18] 100 ?_
  repeat' first | apply And.intro | intro _
  all_goals first | omega | skip
  refine qq_virt rfl e2 (by decide) rfl rfl rfl (Nat.le_of_ble_eq_true rfl) ?_
  refine qq_fsound hxs (sp_0_ok hxs 30) [18] 100 ?_
  repeat' first | apply And.intro | intro _
  all_goals first | exact kk _ hI2 | exact hr.1 | exact hr.2 | contradiction | omega
set_option maxRecDepth 20000 in
theorem lw_of {xs : List Int32} (hxs : xs.length ≤ 2048) (R : qq_Rest xs) (S : qq_S) (i : Int) (h0 : 0 ≤ i) (hl : i + 4 ≤ (mm_ro xs 0).length) (hI : inv S) (kk : ∀ S', inv S' → qq_p xs 30 (some .boolean) mm_kl (fun r _ => r = some 1) 18 [some (.inr (0, none)), some (.inr (3, none)), some (.inr (115, none)), some (.inl (i + 4))] [] S') : qq_p xs 30 (some .boolean) mm_kl (fun r _ => r = some 1) 219 [some (.inr (0, none)), some (.inr (3, none)), some (.inr (115, none)), some (.inl i)] [] S := by
  refine qq_fsound hxs (sp_0_ok hxs 30) [18] 100 ?_
  repeat' first | apply And.intro | intro _
  all_goals first | omega | skip
  obtain ⟨r, S1, S2, e1, e2, hr, hI2⟩ := o_of hxs S _ _ (qq_inT _) (qq_inT _) hI
  refine qq_virt rfl e1 (by decide) rfl rfl rfl (Nat.le_of_ble_eq_true rfl) ?_
  refine qq_fsound hxs (sp_0_ok hxs 30) [18] 100 ?_
  repeat' first | apply And.intro | intro _
  all_goals first | omega | skip
  refine qq_virt rfl e2 (by decide) rfl rfl rfl (Nat.le_of_ble_eq_true rfl) ?_
  refine qq_fsound hxs (sp_0_ok hxs 30) [18] 100 ?_
  repeat' first | apply And.intro | intro _
  all_goals first | exact kk _ hI2 | exact hr.1 | exact hr.2 | contradiction | omega
set_option maxRecDepth 20000 in
theorem lw_edge {xs : List Int32} (hxs : xs.length ≤ 2048) (R : qq_Rest xs) (S : qq_S) (i : Int) (h0 : 0 ≤ i) (hl : i + 4 ≤ (mm_ro xs 0).length) (hI : inv S) (kk : ∀ S', inv S' → qq_p xs 30 (some .boolean) mm_kl (fun r _ => r = some 1) 18 [some (.inr (0, none)), some (.inr (3, none)), some (.inr (115, none)), some (.inl (i + 4))] [] S') : qq_p xs 30 (some .boolean) mm_kl (fun r _ => r = some 1) 252 [some (.inr (0, none)), some (.inr (3, none)), some (.inr (115, none)), some (.inl i)] [] S := by
  refine qq_fsound hxs (sp_0_ok hxs 30) [18] 100 ?_
  repeat' first | apply And.intro | intro _
  all_goals first | omega | skip
  obtain ⟨r, S1, S2, e1, e2, hr, hI2⟩ := o_edge hxs S _ _ (qq_inT _) (qq_inT _) hI
  refine qq_virt rfl e1 (by decide) rfl rfl rfl (Nat.le_of_ble_eq_true rfl) ?_
  refine qq_fsound hxs (sp_0_ok hxs 30) [18] 100 ?_
  repeat' first | apply And.intro | intro _
  all_goals first | omega | skip
  refine qq_virt rfl e2 (by decide) rfl rfl rfl (Nat.le_of_ble_eq_true rfl) ?_
  refine qq_fsound hxs (sp_0_ok hxs 30) [18] 100 ?_
  repeat' first | apply And.intro | intro _
  all_goals first | exact kk _ hI2 | exact hr.1 | exact hr.2 | contradiction | omega
set_option maxRecDepth 20000 in
theorem lw_round {xs : List Int32} (hxs : xs.length ≤ 2048) (R : qq_Rest xs) (S : qq_S) (i : Int) (h0 : 0 ≤ i) (hl : i + 4 ≤ (mm_ro xs 0).length) (hI : inv S) (kk : ∀ S', inv S' → qq_p xs 30 (some .boolean) mm_kl (fun r _ => r = some 1) 18 [some (.inr (0, none)), some (.inr (3, none)), some (.inr (115, none)), some (.inl (i + 4))] [] S') : qq_p xs 30 (some .boolean) mm_kl (fun r _ => r = some 1) 285 [some (.inr (0, none)), some (.inr (3, none)), some (.inr (115, none)), some (.inl i)] [] S := by
  refine qq_fsound hxs (sp_0_ok hxs 30) [18] 100 ?_
  repeat' first | apply And.intro | intro _
  all_goals first | omega | skip
  obtain ⟨r, S1, S2, e1, e2, hr, hI2⟩ := R.2.1 S _ _ (qq_inT _) (qq_inT _) hI
  refine qq_virt rfl e1 (by decide) rfl rfl rfl (Nat.le_of_ble_eq_true rfl) ?_
  refine qq_fsound hxs (sp_0_ok hxs 30) [18] 100 ?_
  repeat' first | apply And.intro | intro _
  all_goals first | omega | skip
  refine qq_virt rfl e2 (by decide) rfl rfl rfl (Nat.le_of_ble_eq_true rfl) ?_
  refine qq_fsound hxs (sp_0_ok hxs 30) [18] 100 ?_
  repeat' first | apply And.intro | intro _
  all_goals first | exact kk _ hI2 | exact hr.1 | exact hr.2 | contradiction | omega
set_option maxRecDepth 20000 in
theorem lw_grid {xs : List Int32} (hxs : xs.length ≤ 2048) (R : qq_Rest xs) (S : qq_S) (i : Int) (h0 : 0 ≤ i) (hl : i + 4 ≤ (mm_ro xs 0).length) (hI : inv S) (kk : ∀ S', inv S' → qq_p xs 30 (some .boolean) mm_kl (fun r _ => r = some 1) 18 [some (.inr (0, none)), some (.inr (3, none)), some (.inr (115, none)), some (.inl (i + 4))] [] S') : qq_p xs 30 (some .boolean) mm_kl (fun r _ => r = some 1) 318 [some (.inr (0, none)), some (.inr (3, none)), some (.inr (115, none)), some (.inl i)] [] S := by
  refine qq_fsound hxs (sp_0_ok hxs 30) [18] 100 ?_
  repeat' first | apply And.intro | intro _
  all_goals first | omega | skip
  obtain ⟨r, S1, S2, e1, e2, hr, hI2⟩ := o_grid hxs S _ _ (qq_inT _) (qq_inT _) hI
  refine qq_virt rfl e1 (by decide) rfl rfl rfl (Nat.le_of_ble_eq_true rfl) ?_
  refine qq_fsound hxs (sp_0_ok hxs 30) [18] 100 ?_
  repeat' first | apply And.intro | intro _
  all_goals first | omega | skip
  refine qq_virt rfl e2 (by decide) rfl rfl rfl (Nat.le_of_ble_eq_true rfl) ?_
  refine qq_fsound hxs (sp_0_ok hxs 30) [18] 100 ?_
  repeat' first | apply And.intro | intro _
  all_goals first | exact kk _ hI2 | exact hr.1 | exact hr.2 | contradiction | omega
set_option maxRecDepth 20000 in
theorem lw_span {xs : List Int32} (hxs : xs.length ≤ 2048) (R : qq_Rest xs) (S : qq_S) (i : Int) (h0 : 0 ≤ i) (hl : i + 4 ≤ (mm_ro xs 0).length) (hI : inv S) (kk : ∀ S', inv S' → qq_p xs 30 (some .boolean) mm_kl (fun r _ => r = some 1) 18 [some (.inr (0, none)), some (.inr (3, none)), some (.inr (115, none)), some (.inl (i + 4))] [] S') : qq_p xs 30 (some .boolean) mm_kl (fun r _ => r = some 1) 351 [some (.inr (0, none)), some (.inr (3, none)), some (.inr (115, none)), some (.inl i)] [] S := by
  refine qq_fsound hxs (sp_0_ok hxs 30) [18] 100 ?_
  repeat' first | apply And.intro | intro _
  all_goals first | omega | skip
  obtain ⟨r, S1, S2, e1, e2, hr, hI2⟩ := o_span hxs S _ (qq_inT _) hI
  refine qq_virt rfl e1 (by decide) rfl rfl rfl (Nat.le_of_ble_eq_true rfl) ?_
  refine qq_fsound hxs (sp_0_ok hxs 30) [18] 100 ?_
  repeat' first | apply And.intro | intro _
  all_goals first | omega | skip
  refine qq_virt rfl e2 (by decide) rfl rfl rfl (Nat.le_of_ble_eq_true rfl) ?_
  refine qq_fsound hxs (sp_0_ok hxs 30) [18] 100 ?_
  repeat' first | apply And.intro | intro _
  all_goals first | exact kk _ hI2 | exact hr.1 | exact hr.2 | contradiction | omega
set_option maxRecDepth 20000 in
theorem lw_terms {xs : List Int32} (hxs : xs.length ≤ 2048) (R : qq_Rest xs) (S : qq_S) (i : Int) (h0 : 0 ≤ i) (hl : i + 4 ≤ (mm_ro xs 0).length) (hI : inv S) (kk : ∀ S', inv S' → qq_p xs 30 (some .boolean) mm_kl (fun r _ => r = some 1) 18 [some (.inr (0, none)), some (.inr (3, none)), some (.inr (115, none)), some (.inl (i + 4))] [] S') : qq_p xs 30 (some .boolean) mm_kl (fun r _ => r = some 1) 374 [some (.inr (0, none)), some (.inr (3, none)), some (.inr (115, none)), some (.inl i)] [] S := by
  refine qq_fsound hxs (sp_0_ok hxs 30) [18] 100 ?_
  repeat' first | apply And.intro | intro _
  all_goals first | omega | skip
  obtain ⟨r, S1, S2, e1, e2, hr, hI2⟩ := o_terms hxs S _ _ _ (qq_inT _) (qq_inT _) (qq_inT _) hI
  refine qq_virt rfl e1 (by decide) rfl rfl rfl (Nat.le_of_ble_eq_true rfl) ?_
  refine qq_fsound hxs (sp_0_ok hxs 30) [18] 100 ?_
  repeat' first | apply And.intro | intro _
  all_goals first | omega | skip
  refine qq_virt rfl e2 (by decide) rfl rfl rfl (Nat.le_of_ble_eq_true rfl) ?_
  refine qq_fsound hxs (sp_0_ok hxs 30) [18] 100 ?_
  repeat' first | apply And.intro | intro _
  all_goals first | exact kk _ hI2 | exact hr.1 | exact hr.2 | contradiction | omega
set_option maxRecDepth 20000 in
theorem lw_place {xs : List Int32} (hxs : xs.length ≤ 2048) (R : qq_Rest xs) (S : qq_S) (i : Int) (h0 : 0 ≤ i) (hl : i + 4 ≤ (mm_ro xs 0).length) (hI : inv S) (kk : ∀ S', inv S' → qq_p xs 30 (some .boolean) mm_kl (fun r _ => r = some 1) 18 [some (.inr (0, none)), some (.inr (3, none)), some (.inr (115, none)), some (.inl (i + 4))] [] S') : qq_p xs 30 (some .boolean) mm_kl (fun r _ => r = some 1) 417 [some (.inr (0, none)), some (.inr (3, none)), some (.inr (115, none)), some (.inl i)] [] S := by
  refine qq_fsound hxs (sp_0_ok hxs 30) [18] 100 ?_
  repeat' first | apply And.intro | intro _
  all_goals first | omega | skip
  obtain ⟨r, S1, S2, e1, e2, hr, hI2⟩ := o_place hxs S _ _ _ (qq_inT _) (qq_inT _) (qq_inT _) hI
  refine qq_virt rfl e1 (by decide) rfl rfl rfl (Nat.le_of_ble_eq_true rfl) ?_
  refine qq_fsound hxs (sp_0_ok hxs 30) [18] 100 ?_
  repeat' first | apply And.intro | intro _
  all_goals first | omega | skip
  refine qq_virt rfl e2 (by decide) rfl rfl rfl (Nat.le_of_ble_eq_true rfl) ?_
  refine qq_fsound hxs (sp_0_ok hxs 30) [18] 100 ?_
  repeat' first | apply And.intro | intro _
  all_goals first | exact kk _ hI2 | exact hr.1 | exact hr.2 | contradiction | omega
set_option maxRecDepth 20000 in
theorem lw_point {xs : List Int32} (hxs : xs.length ≤ 2048) (R : qq_Rest xs) (S : qq_S) (i : Int) (h0 : 0 ≤ i) (hl : i + 4 ≤ (mm_ro xs 0).length) (hI : inv S) (kk : ∀ S', inv S' → qq_p xs 30 (some .boolean) mm_kl (fun r _ => r = some 1) 18 [some (.inr (0, none)), some (.inr (3, none)), some (.inr (115, none)), some (.inl (i + 4))] [] S') : qq_p xs 30 (some .boolean) mm_kl (fun r _ => r = some 1) 460 [some (.inr (0, none)), some (.inr (3, none)), some (.inr (115, none)), some (.inl i)] [] S := by
  refine qq_fsound hxs (sp_0_ok hxs 30) [18] 100 ?_
  repeat' first | apply And.intro | intro _
  all_goals first | omega | skip
  obtain ⟨r, S1, S2, e1, e2, hr, hI2⟩ := o_point hxs S _ (qq_inT _) hI
  refine qq_virt rfl e1 (by decide) rfl rfl rfl (Nat.le_of_ble_eq_true rfl) ?_
  refine qq_fsound hxs (sp_0_ok hxs 30) [18] 100 ?_
  repeat' first | apply And.intro | intro _
  all_goals first | omega | skip
  refine qq_virt rfl e2 (by decide) rfl rfl rfl (Nat.le_of_ble_eq_true rfl) ?_
  refine qq_fsound hxs (sp_0_ok hxs 30) [18] 100 ?_
  repeat' first | apply And.intro | intro _
  all_goals first | exact kk _ hI2 | exact hr.1 | exact hr.2 | contradiction | omega
set_option maxRecDepth 20000 in
theorem lw_hold {xs : List Int32} (hxs : xs.length ≤ 2048) (R : qq_Rest xs) (S : qq_S) (i : Int) (h0 : 0 ≤ i) (hl : i + 4 ≤ (mm_ro xs 0).length) (hI : inv S) (kk : ∀ S', inv S' → qq_p xs 30 (some .boolean) mm_kl (fun r _ => r = some 1) 18 [some (.inr (0, none)), some (.inr (3, none)), some (.inr (115, none)), some (.inl (i + 4))] [] S') : qq_p xs 30 (some .boolean) mm_kl (fun r _ => r = some 1) 483 [some (.inr (0, none)), some (.inr (3, none)), some (.inr (115, none)), some (.inl i)] [] S := by
  have hq := qq_inT ((mm_ro xs 0).getD (i + 2).toNat 0)
  unfold qq_in at hq
  refine qq_fsound hxs (sp_0_ok hxs 30) [18] 100 ?_
  repeat' first | apply And.intro | intro _
  all_goals first | omega | exact qq_inT _ | skip
  · obtain ⟨r, S1, S2, e1, e2, hr, hI2⟩ := o_hold hxs S _ _ (qq_inT ((mm_ro xs 0).getD (i + 1).toNat 0)) (show (0 : Int) = 0 ∨ (0 : Int) = 1 from Or.inl rfl) hI
    show qq_p xs 30 (some .boolean) mm_kl (fun r _ => r = some 1) 502 [some (.inr (0, none)), some (.inr (3, none)), some (.inr (115, none)), some (.inl i)] [.inl 0, .inl ((mm_ro xs 0).getD (i + 1).toNat 0).toInt, .inr (3, none)] S
    refine qq_virt rfl e1 (by decide) rfl rfl rfl (Nat.le_of_ble_eq_true rfl) ?_
    refine qq_fsound hxs (sp_0_ok hxs 30) [18] 100 ?_
    repeat' first | apply And.intro | intro _
    all_goals first | omega | exact qq_inT _ | contradiction | skip
    show qq_p xs 30 (some .boolean) mm_kl (fun r _ => r = some 1) 524 [some (.inr (0, none)), some (.inr (3, none)), some (.inr (115, none)), some (.inl i)] [.inl 0, .inl ((mm_ro xs 0).getD (i + 1).toNat 0).toInt, .inr (115, none), .inl r] S1
    refine qq_virt rfl e2 (by decide) rfl rfl rfl (Nat.le_of_ble_eq_true rfl) ?_
    refine qq_fsound hxs (sp_0_ok hxs 30) [18] 100 ?_
    repeat' first | apply And.intro | intro _
    all_goals first | exact kk _ hI2 | exact hr.1 | exact hr.2 | contradiction | omega
  · obtain ⟨r, S1, S2, e1, e2, hr, hI2⟩ := o_hold hxs S _ _ (qq_inT ((mm_ro xs 0).getD (i + 1).toNat 0)) (show (1 : Int) = 0 ∨ (1 : Int) = 1 from Or.inr rfl) hI
    show qq_p xs 30 (some .boolean) mm_kl (fun r _ => r = some 1) 502 [some (.inr (0, none)), some (.inr (3, none)), some (.inr (115, none)), some (.inl i)] [.inl 1, .inl ((mm_ro xs 0).getD (i + 1).toNat 0).toInt, .inr (3, none)] S
    refine qq_virt rfl e1 (by decide) rfl rfl rfl (Nat.le_of_ble_eq_true rfl) ?_
    refine qq_fsound hxs (sp_0_ok hxs 30) [18] 100 ?_
    repeat' first | apply And.intro | intro _
    all_goals first | omega | exact qq_inT _ | contradiction | skip
    show qq_p xs 30 (some .boolean) mm_kl (fun r _ => r = some 1) 524 [some (.inr (0, none)), some (.inr (3, none)), some (.inr (115, none)), some (.inl i)] [.inl 1, .inl ((mm_ro xs 0).getD (i + 1).toNat 0).toInt, .inr (115, none), .inl r] S1
    refine qq_virt rfl e2 (by decide) rfl rfl rfl (Nat.le_of_ble_eq_true rfl) ?_
    refine qq_fsound hxs (sp_0_ok hxs 30) [18] 100 ?_
    repeat' first | apply And.intro | intro _
    all_goals first | exact kk _ hI2 | exact hr.1 | exact hr.2 | contradiction | omega
set_option maxRecDepth 20000 in
theorem lw_why {xs : List Int32} (hxs : xs.length ≤ 2048) (R : qq_Rest xs) (S : qq_S) (i : Int) (h0 : 0 ≤ i) (hl : i + 4 ≤ (mm_ro xs 0).length) (hI : inv S) (kk : ∀ S', inv S' → qq_p xs 30 (some .boolean) mm_kl (fun r _ => r = some 1) 18 [some (.inr (0, none)), some (.inr (3, none)), some (.inr (115, none)), some (.inl (i + 4))] [] S') : qq_p xs 30 (some .boolean) mm_kl (fun r _ => r = some 1) 532 [some (.inr (0, none)), some (.inr (3, none)), some (.inr (115, none)), some (.inl i)] [] S := by
  refine qq_fsound hxs (sp_0_ok hxs 30) [18] 100 ?_
  repeat' first | apply And.intro | intro _
  all_goals first | omega | skip
  obtain ⟨r, S1, S2, e1, e2, hr, hI2⟩ := R.2.2.1 S _ (qq_inT _) hI
  refine qq_virt rfl e1 (by decide) rfl rfl rfl (Nat.le_of_ble_eq_true rfl) ?_
  refine qq_fsound hxs (sp_0_ok hxs 30) [18] 100 ?_
  repeat' first | apply And.intro | intro _
  all_goals first | omega | skip
  refine qq_virt rfl e2 (by decide) rfl rfl rfl (Nat.le_of_ble_eq_true rfl) ?_
  refine qq_fsound hxs (sp_0_ok hxs 30) [18] 100 ?_
  repeat' first | apply And.intro | intro _
  all_goals first | exact kk _ hI2 | exact hr.1 | exact hr.2 | contradiction | omega
set_option maxRecDepth 20000 in
theorem lw_cost {xs : List Int32} (hxs : xs.length ≤ 2048) (R : qq_Rest xs) (S : qq_S) (i : Int) (h0 : 0 ≤ i) (hl : i + 4 ≤ (mm_ro xs 0).length) (hI : inv S) (kk : ∀ S', inv S' → qq_p xs 30 (some .boolean) mm_kl (fun r _ => r = some 1) 18 [some (.inr (0, none)), some (.inr (3, none)), some (.inr (115, none)), some (.inl (i + 4))] [] S') : qq_p xs 30 (some .boolean) mm_kl (fun r _ => r = some 1) 555 [some (.inr (0, none)), some (.inr (3, none)), some (.inr (115, none)), some (.inl i)] [] S := by
  refine qq_fsound hxs (sp_0_ok hxs 30) [18] 100 ?_
  repeat' first | apply And.intro | intro _
  all_goals first | omega | skip
  obtain ⟨r, S1, S2, e1, e2, hr, hI2⟩ := R.2.2.2.1 S _ (qq_inT _) hI
  refine qq_virt rfl e1 (by decide) rfl rfl rfl (Nat.le_of_ble_eq_true rfl) ?_
  refine qq_fsound hxs (sp_0_ok hxs 30) [18] 100 ?_
  repeat' first | apply And.intro | intro _
  all_goals first | omega | skip
  refine qq_virt rfl e2 (by decide) rfl rfl rfl (Nat.le_of_ble_eq_true rfl) ?_
  refine qq_fsound hxs (sp_0_ok hxs 30) [18] 100 ?_
  repeat' first | apply And.intro | intro _
  all_goals first | exact kk _ hI2 | exact hr.1 | exact hr.2 | contradiction | omega
set_option maxRecDepth 20000 in
theorem lw_best {xs : List Int32} (hxs : xs.length ≤ 2048) (R : qq_Rest xs) (S : qq_S) (i : Int) (h0 : 0 ≤ i) (hl : i + 4 ≤ (mm_ro xs 0).length) (hI : inv S) (kk : ∀ S', inv S' → qq_p xs 30 (some .boolean) mm_kl (fun r _ => r = some 1) 18 [some (.inr (0, none)), some (.inr (3, none)), some (.inr (115, none)), some (.inl (i + 4))] [] S') : qq_p xs 30 (some .boolean) mm_kl (fun r _ => r = some 1) 578 [some (.inr (0, none)), some (.inr (3, none)), some (.inr (115, none)), some (.inl i)] [] S := by
  refine qq_fsound hxs (sp_0_ok hxs 30) [18] 100 ?_
  repeat' first | apply And.intro | intro _
  all_goals first | omega | skip
  obtain ⟨r, S1, S2, e1, e2, hr, hI2⟩ := R.2.2.2.2.1 S  hI
  refine qq_virt rfl e1 (by decide) rfl rfl rfl (Nat.le_of_ble_eq_true rfl) ?_
  refine qq_fsound hxs (sp_0_ok hxs 30) [18] 100 ?_
  repeat' first | apply And.intro | intro _
  all_goals first | omega | skip
  refine qq_virt rfl e2 (by decide) rfl rfl rfl (Nat.le_of_ble_eq_true rfl) ?_
  refine qq_fsound hxs (sp_0_ok hxs 30) [18] 100 ?_
  repeat' first | apply And.intro | intro _
  all_goals first | exact kk _ hI2 | exact hr.1 | exact hr.2 | contradiction | omega
set_option maxRecDepth 20000 in
theorem lw_better {xs : List Int32} (hxs : xs.length ≤ 2048) (R : qq_Rest xs) (S : qq_S) (i : Int) (h0 : 0 ≤ i) (hl : i + 4 ≤ (mm_ro xs 0).length) (hI : inv S) (kk : ∀ S', inv S' → qq_p xs 30 (some .boolean) mm_kl (fun r _ => r = some 1) 18 [some (.inr (0, none)), some (.inr (3, none)), some (.inr (115, none)), some (.inl (i + 4))] [] S') : qq_p xs 30 (some .boolean) mm_kl (fun r _ => r = some 1) 591 [some (.inr (0, none)), some (.inr (3, none)), some (.inr (115, none)), some (.inl i)] [] S := by
  refine qq_fsound hxs (sp_0_ok hxs 30) [18] 100 ?_
  repeat' first | apply And.intro | intro _
  all_goals first | omega | skip
  obtain ⟨r, S1, S2, e1, e2, hr, hI2⟩ := R.2.2.2.2.2.1 S  hI
  refine qq_virt rfl e1 (by decide) rfl rfl rfl (Nat.le_of_ble_eq_true rfl) ?_
  refine qq_fsound hxs (sp_0_ok hxs 30) [18] 100 ?_
  repeat' first | apply And.intro | intro _
  all_goals first | omega | skip
  refine qq_virt rfl e2 (by decide) rfl rfl rfl (Nat.le_of_ble_eq_true rfl) ?_
  refine qq_fsound hxs (sp_0_ok hxs 30) [18] 100 ?_
  repeat' first | apply And.intro | intro _
  all_goals first | exact kk _ hI2 | exact hr.1 | exact hr.2 | contradiction | omega
set_option maxRecDepth 20000 in
theorem lw_name {xs : List Int32} (hxs : xs.length ≤ 2048) (R : qq_Rest xs) (S : qq_S) (i : Int) (h0 : 0 ≤ i) (hl : i + 4 ≤ (mm_ro xs 0).length) (hI : inv S) (kk : ∀ S', inv S' → qq_p xs 30 (some .boolean) mm_kl (fun r _ => r = some 1) 18 [some (.inr (0, none)), some (.inr (3, none)), some (.inr (115, none)), some (.inl (i + 4))] [] S') : qq_p xs 30 (some .boolean) mm_kl (fun r _ => r = some 1) 604 [some (.inr (0, none)), some (.inr (3, none)), some (.inr (115, none)), some (.inl i)] [] S := by
  refine qq_fsound hxs (sp_0_ok hxs 30) [18] 100 ?_
  repeat' first | apply And.intro | intro _
  all_goals first | omega | skip
  obtain ⟨r, S1, S2, e1, e2, hr, hI2⟩ := o_name hxs S _ _ (qq_inT _) (qq_inT _) hI
  refine qq_virt rfl e1 (by decide) rfl rfl rfl (Nat.le_of_ble_eq_true rfl) ?_
  refine qq_fsound hxs (sp_0_ok hxs 30) [18] 100 ?_
  repeat' first | apply And.intro | intro _
  all_goals first | omega | skip
  refine qq_virt rfl e2 (by decide) rfl rfl rfl (Nat.le_of_ble_eq_true rfl) ?_
  refine qq_fsound hxs (sp_0_ok hxs 30) [18] 100 ?_
  repeat' first | apply And.intro | intro _
  all_goals first | exact kk _ hI2 | exact hr.1 | exact hr.2 | contradiction | omega
set_option maxRecDepth 20000 in
theorem lw_put {xs : List Int32} (hxs : xs.length ≤ 2048) (R : qq_Rest xs) (S : qq_S) (i : Int) (h0 : 0 ≤ i) (hl : i + 4 ≤ (mm_ro xs 0).length) (hI : inv S) (kk : ∀ S', inv S' → qq_p xs 30 (some .boolean) mm_kl (fun r _ => r = some 1) 18 [some (.inr (0, none)), some (.inr (3, none)), some (.inr (115, none)), some (.inl (i + 4))] [] S') : qq_p xs 30 (some .boolean) mm_kl (fun r _ => r = some 1) 637 [some (.inr (0, none)), some (.inr (3, none)), some (.inr (115, none)), some (.inl i)] [] S := by
  refine qq_fsound hxs (sp_0_ok hxs 30) [18] 100 ?_
  repeat' first | apply And.intro | intro _
  all_goals first | omega | skip
  obtain ⟨r, S1, S2, e1, e2, hr, hI2⟩ := R.2.2.2.2.2.2 S  hI
  refine qq_virt rfl e1 (by decide) rfl rfl rfl (Nat.le_of_ble_eq_true rfl) ?_
  refine qq_fsound hxs (sp_0_ok hxs 30) [18] 100 ?_
  repeat' first | apply And.intro | intro _
  all_goals first | omega | skip
  refine qq_virt rfl e2 (by decide) rfl rfl rfl (Nat.le_of_ble_eq_true rfl) ?_
  refine qq_fsound hxs (sp_0_ok hxs 30) [18] 100 ?_
  repeat' first | apply And.intro | intro _
  all_goals first | exact kk _ hI2 | exact hr.1 | exact hr.2 | contradiction | omega
set_option maxRecDepth 20000 in
theorem lw_named {xs : List Int32} (hxs : xs.length ≤ 2048) (R : qq_Rest xs) (S : qq_S) (i : Int) (h0 : 0 ≤ i) (hl : i + 4 ≤ (mm_ro xs 0).length) (hI : inv S) (kk : ∀ S', inv S' → qq_p xs 30 (some .boolean) mm_kl (fun r _ => r = some 1) 18 [some (.inr (0, none)), some (.inr (3, none)), some (.inr (115, none)), some (.inl (i + 4))] [] S') : qq_p xs 30 (some .boolean) mm_kl (fun r _ => r = some 1) 650 [some (.inr (0, none)), some (.inr (3, none)), some (.inr (115, none)), some (.inl i)] [] S := by
  refine qq_fsound hxs (sp_0_ok hxs 30) [18] 100 ?_
  repeat' first | apply And.intro | intro _
  all_goals first | omega | skip
  obtain ⟨r, S1, S2, e1, e2, hr, hI2⟩ := o_named hxs S _ _ (qq_inT _) (qq_inT _) hI
  refine qq_virt rfl e1 (by decide) rfl rfl rfl (Nat.le_of_ble_eq_true rfl) ?_
  refine qq_fsound hxs (sp_0_ok hxs 30) [18] 100 ?_
  repeat' first | apply And.intro | intro _
  all_goals first | omega | skip
  refine qq_virt rfl e2 (by decide) rfl rfl rfl (Nat.le_of_ble_eq_true rfl) ?_
  refine qq_fsound hxs (sp_0_ok hxs 30) [18] 100 ?_
  repeat' first | apply And.intro | intro _
  all_goals first | exact kk _ hI2 | exact hr.1 | exact hr.2 | contradiction | omega
set_option maxRecDepth 20000 in
theorem lw_image {xs : List Int32} (hxs : xs.length ≤ 2048) (R : qq_Rest xs) (S : qq_S) (i : Int) (h0 : 0 ≤ i) (hl : i + 4 ≤ (mm_ro xs 0).length) (hI : inv S) (kk : ∀ S', inv S' → qq_p xs 30 (some .boolean) mm_kl (fun r _ => r = some 1) 18 [some (.inr (0, none)), some (.inr (3, none)), some (.inr (115, none)), some (.inl (i + 4))] [] S') : qq_p xs 30 (some .boolean) mm_kl (fun r _ => r = some 1) 683 [some (.inr (0, none)), some (.inr (3, none)), some (.inr (115, none)), some (.inl i)] [] S := by
  refine qq_fsound hxs (sp_0_ok hxs 30) [18] 100 ?_
  repeat' first | apply And.intro | intro _
  all_goals first | omega | skip
  obtain ⟨r, S1, S2, e1, e2, hr, hI2⟩ := o_image hxs S _ (qq_inT _) hI
  refine qq_virt rfl e1 (by decide) rfl rfl rfl (Nat.le_of_ble_eq_true rfl) ?_
  refine qq_fsound hxs (sp_0_ok hxs 30) [18] 100 ?_
  repeat' first | apply And.intro | intro _
  all_goals first | omega | skip
  refine qq_virt rfl e2 (by decide) rfl rfl rfl (Nat.le_of_ble_eq_true rfl) ?_
  refine qq_fsound hxs (sp_0_ok hxs 30) [18] 100 ?_
  repeat' first | apply And.intro | intro _
  all_goals first | exact kk _ hI2 | exact hr.1 | exact hr.2 | contradiction | omega
set_option maxRecDepth 20000 in
theorem lw_back {xs : List Int32} (hxs : xs.length ≤ 2048) (R : qq_Rest xs) (S : qq_S) (i : Int) (h0 : 0 ≤ i) (hl : i + 4 ≤ (mm_ro xs 0).length) (hI : inv S) (kk : ∀ S', inv S' → qq_p xs 30 (some .boolean) mm_kl (fun r _ => r = some 1) 18 [some (.inr (0, none)), some (.inr (3, none)), some (.inr (115, none)), some (.inl (i + 4))] [] S') : qq_p xs 30 (some .boolean) mm_kl (fun r _ => r = some 1) 706 [some (.inr (0, none)), some (.inr (3, none)), some (.inr (115, none)), some (.inl i)] [] S := by
  refine qq_fsound hxs (sp_0_ok hxs 30) [18] 100 ?_
  repeat' first | apply And.intro | intro _
  all_goals first | omega | skip
  obtain ⟨r, S1, S2, e1, e2, hr, hI2⟩ := o_back hxs S _ (qq_inT _) hI
  refine qq_virt rfl e1 (by decide) rfl rfl rfl (Nat.le_of_ble_eq_true rfl) ?_
  refine qq_fsound hxs (sp_0_ok hxs 30) [18] 100 ?_
  repeat' first | apply And.intro | intro _
  all_goals first | omega | skip
  refine qq_virt rfl e2 (by decide) rfl rfl rfl (Nat.le_of_ble_eq_true rfl) ?_
  refine qq_fsound hxs (sp_0_ok hxs 30) [18] 100 ?_
  repeat' first | apply And.intro | intro _
  all_goals first | exact kk _ hI2 | exact hr.1 | exact hr.2 | contradiction | omega
set_option maxRecDepth 20000 in
theorem lw_count {xs : List Int32} (hxs : xs.length ≤ 2048) (R : qq_Rest xs) (S : qq_S) (i : Int) (h0 : 0 ≤ i) (hl : i + 4 ≤ (mm_ro xs 0).length) (hI : inv S) (kk : ∀ S', inv S' → qq_p xs 30 (some .boolean) mm_kl (fun r _ => r = some 1) 18 [some (.inr (0, none)), some (.inr (3, none)), some (.inr (115, none)), some (.inl (i + 4))] [] S') : qq_p xs 30 (some .boolean) mm_kl (fun r _ => r = some 1) 729 [some (.inr (0, none)), some (.inr (3, none)), some (.inr (115, none)), some (.inl i)] [] S := by
  refine qq_fsound hxs (sp_0_ok hxs 30) [18] 100 ?_
  repeat' first | apply And.intro | intro _
  all_goals first | omega | skip
  obtain ⟨r, S1, S2, e1, e2, hr, hI2⟩ := o_count hxs S _ (qq_inT _) hI
  refine qq_virt rfl e1 (by decide) rfl rfl rfl (Nat.le_of_ble_eq_true rfl) ?_
  refine qq_fsound hxs (sp_0_ok hxs 30) [18] 100 ?_
  repeat' first | apply And.intro | intro _
  all_goals first | omega | skip
  refine qq_virt rfl e2 (by decide) rfl rfl rfl (Nat.le_of_ble_eq_true rfl) ?_
  refine qq_fsound hxs (sp_0_ok hxs 30) [18] 100 ?_
  repeat' first | apply And.intro | intro _
  all_goals first | exact kk _ hI2 | exact hr.1 | exact hr.2 | contradiction | omega
set_option maxRecDepth 20000 in
theorem lw_status {xs : List Int32} (hxs : xs.length ≤ 2048) (R : qq_Rest xs) (S : qq_S) (i : Int) (h0 : 0 ≤ i) (hl : i + 4 ≤ (mm_ro xs 0).length) (hI : inv S) (kk : ∀ S', inv S' → qq_p xs 30 (some .boolean) mm_kl (fun r _ => r = some 1) 18 [some (.inr (0, none)), some (.inr (3, none)), some (.inr (115, none)), some (.inl (i + 4))] [] S') : qq_p xs 30 (some .boolean) mm_kl (fun r _ => r = some 1) 752 [some (.inr (0, none)), some (.inr (3, none)), some (.inr (115, none)), some (.inl i)] [] S := by
  refine qq_fsound hxs (sp_0_ok hxs 30) [18] 100 ?_
  repeat' first | apply And.intro | intro _
  all_goals first | omega | skip
  obtain ⟨r, S1, S2, e1, e2, hr, hI2⟩ := o_status hxs S  hI
  refine qq_virt rfl e1 (by decide) rfl rfl rfl (Nat.le_of_ble_eq_true rfl) ?_
  refine qq_fsound hxs (sp_0_ok hxs 30) [18] 100 ?_
  repeat' first | apply And.intro | intro _
  all_goals first | omega | skip
  refine qq_virt rfl e2 (by decide) rfl rfl rfl (Nat.le_of_ble_eq_true rfl) ?_
  refine qq_fsound hxs (sp_0_ok hxs 30) [18] 100 ?_
  repeat' first | apply And.intro | intro _
  all_goals first | exact kk _ hI2 | exact hr.1 | exact hr.2 | contradiction | omega
theorem qq_and31 (x : Int32) : ∃ n : Nat, n < 32 ∧ qq_and x.toInt 31 = n := by
  obtain ⟨j, h1, h2⟩ := pk_andE x (m := 31) 5 (by decide)
  refine ⟨j, h1, ?_⟩
  unfold qq_and
  rw [qq_ofT, show Int32.ofInt 31 = 31 from rfl, h2]
  exact nI_toInt (by omega)
set_option maxRecDepth 20000 in
theorem lw_loop {xs : List Int32} (hxs : xs.length ≤ 2048) (R : qq_Rest xs) : ∀ (k : Nat) (S : qq_S) (i : Int), 0 ≤ i → xs.length < i + 4 * k → i ≤ xs.length → inv S → qq_p xs 30 (some .boolean) mm_kl (fun r _ => r = some 1) 18 [some (.inr (0, none)), some (.inr (3, none)), some (.inr (115, none)), some (.inl i)] [] S := by
  intro k
  have hlen : ((mm_ro xs 0).length : Int) = xs.length := rfl
  induction k with
  | zero => intro S i h0 hk hle hI; omega
  | succ k ih =>
    intro S i h0 hk hle hI
    have KK : i + 4 ≤ xs.length → ∀ S', inv S' → qq_p xs 30 (some .boolean) mm_kl (fun r _ => r = some 1) 18 [some (.inr (0, none)), some (.inr (3, none)), some (.inr (115, none)), some (.inl (i + 4))] [] S' := fun hq S' hS' => ih S' (i + 4) (by omega) (by omega) (by omega) hS'
    obtain ⟨n9, n1, n2⟩ := qq_and31 ((mm_ro xs 0).getD i.toNat 0)
    refine qq_fsound hxs (sp_0_ok hxs 30) [18, 140, 173, 186, 219, 252, 285, 318, 351, 374, 417, 460, 483, 532, 555, 578, 591, 604, 637, 650, 683, 706, 729, 752] 100 ?_
    repeat' first | apply And.intro | intro _ | (simp only [qq_tab])
    all_goals first | (unfold qq_in; omega) | omega | rfl | exact Or.inr rfl | exact Or.inr trivial | exact And.intro (Or.inr rfl) rfl | exact (rfl : (some (1 : Int)) = some 1) | skip
    all_goals first | exact KK (by omega) S hI | exact lw_station hxs R S i h0 (by omega) hI (KK (by omega)) | exact lw_line hxs R S i h0 (by omega) hI (KK (by omega)) | exact lw_lead hxs R S i h0 (by omega) hI (KK (by omega)) | exact lw_of hxs R S i h0 (by omega) hI (KK (by omega)) | exact lw_edge hxs R S i h0 (by omega) hI (KK (by omega)) | exact lw_round hxs R S i h0 (by omega) hI (KK (by omega)) | exact lw_grid hxs R S i h0 (by omega) hI (KK (by omega)) | exact lw_span hxs R S i h0 (by omega) hI (KK (by omega)) | exact lw_terms hxs R S i h0 (by omega) hI (KK (by omega)) | exact lw_place hxs R S i h0 (by omega) hI (KK (by omega)) | exact lw_point hxs R S i h0 (by omega) hI (KK (by omega)) | exact lw_hold hxs R S i h0 (by omega) hI (KK (by omega)) | exact lw_why hxs R S i h0 (by omega) hI (KK (by omega)) | exact lw_cost hxs R S i h0 (by omega) hI (KK (by omega)) | exact lw_best hxs R S i h0 (by omega) hI (KK (by omega)) | exact lw_better hxs R S i h0 (by omega) hI (KK (by omega)) | exact lw_name hxs R S i h0 (by omega) hI (KK (by omega)) | exact lw_put hxs R S i h0 (by omega) hI (KK (by omega)) | exact lw_named hxs R S i h0 (by omega) hI (KK (by omega)) | exact lw_image hxs R S i h0 (by omega) hI (KK (by omega)) | exact lw_back hxs R S i h0 (by omega) hI (KK (by omega)) | exact lw_count hxs R S i h0 (by omega) hI (KK (by omega)) | exact lw_status hxs R S i h0 (by omega) hI (KK (by omega)) | skip
    done
theorem qq_goal_of (R : ∀ xs : List Int32, xs.length ≤ 2048 → qq_Rest xs) : qq_Goal := fun xs hxs => lw_loop hxs (R xs hxs) (xs.length + 1) qq_0 0 (by omega) (by omega) (by omega) inv_start
end
