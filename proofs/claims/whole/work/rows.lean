section
-- ===== PART A: goes FIRST, ahead of the names: the tables' words, and 'selects' of the private methods out of them =====
/-- a private method of a class that the tables say can be made, by its rows of tables_1 -/
def lw_okq (q : MethodName × Nat) : Prop := (q.1.cls ≠ "java/lang/invoke/MethodHandle" ∧ q.1.cls ≠ "java/lang/invoke/VarHandle") ∧ Cond.instantiable q.1.cls q.2 ∈ tables_1 ∧ Cond.privateMethod q.1 ∈ tables_1 ∧ Cond.instanceMethod q.1 ∈ tables_1
theorem lw_p0 : lw_okq (⟨"HouseClaps$Tokens", "isSameWord", "(Ljava/lang/String;I)Z"⟩, 9) := ⟨⟨by decide +kernel, by decide +kernel⟩, List.mem_of_getElem? (i := 194) (by decide +kernel), List.mem_of_getElem? (i := 534) (by decide +kernel), List.mem_of_getElem? (i := 535) (by decide +kernel)⟩
theorem lw_p1 : lw_okq (⟨"HouseClaps$HouseText", "readRow", "()Z"⟩, 7) := ⟨⟨by decide +kernel, by decide +kernel⟩, List.mem_of_getElem? (i := 237) (by decide +kernel), List.mem_of_getElem? (i := 580) (by decide +kernel), List.mem_of_getElem? (i := 581) (by decide +kernel)⟩
theorem lw_p2 : lw_okq (⟨"HouseClaps$HouseText", "readLaw", "(I)Z"⟩, 7) := ⟨⟨by decide +kernel, by decide +kernel⟩, List.mem_of_getElem? (i := 237) (by decide +kernel), List.mem_of_getElem? (i := 597) (by decide +kernel), List.mem_of_getElem? (i := 598) (by decide +kernel)⟩
theorem lw_p3 : lw_okq (⟨"HouseClaps$HouseText", "readJoined", "(II)Z"⟩, 7) := ⟨⟨by decide +kernel, by decide +kernel⟩, List.mem_of_getElem? (i := 237) (by decide +kernel), List.mem_of_getElem? (i := 601) (by decide +kernel), List.mem_of_getElem? (i := 602) (by decide +kernel)⟩
theorem lw_p4 : lw_okq (⟨"HouseClaps$HouseText", "readOne", "(III)Z"⟩, 7) := ⟨⟨by decide +kernel, by decide +kernel⟩, List.mem_of_getElem? (i := 237) (by decide +kernel), List.mem_of_getElem? (i := 605) (by decide +kernel), List.mem_of_getElem? (i := 606) (by decide +kernel)⟩
theorem lw_p5 : lw_okq (⟨"HouseClaps$HouseText", "readCompare", "(Z)Z"⟩, 7) := ⟨⟨by decide +kernel, by decide +kernel⟩, List.mem_of_getElem? (i := 237) (by decide +kernel), List.mem_of_getElem? (i := 615) (by decide +kernel), List.mem_of_getElem? (i := 616) (by decide +kernel)⟩
theorem lw_p6 : lw_okq (⟨"HouseClaps$HouseText", "readPrice", "()Z"⟩, 7) := ⟨⟨by decide +kernel, by decide +kernel⟩, List.mem_of_getElem? (i := 237) (by decide +kernel), List.mem_of_getElem? (i := 628) (by decide +kernel), List.mem_of_getElem? (i := 629) (by decide +kernel)⟩
theorem lw_p7 : lw_okq (⟨"HouseClaps$HouseText", "readLeaves", "()Z"⟩, 7) := ⟨⟨by decide +kernel, by decide +kernel⟩, List.mem_of_getElem? (i := 237) (by decide +kernel), List.mem_of_getElem? (i := 633) (by decide +kernel), List.mem_of_getElem? (i := 634) (by decide +kernel)⟩
theorem lw_p8 : lw_okq (⟨"HouseClaps$HouseText", "readCarry", "()Z"⟩, 7) := ⟨⟨by decide +kernel, by decide +kernel⟩, List.mem_of_getElem? (i := 237) (by decide +kernel), List.mem_of_getElem? (i := 637) (by decide +kernel), List.mem_of_getElem? (i := 638) (by decide +kernel)⟩
theorem lw_p9 : lw_okq (⟨"HouseClaps$HouseText", "readPaid", "()Z"⟩, 7) := ⟨⟨by decide +kernel, by decide +kernel⟩, List.mem_of_getElem? (i := 237) (by decide +kernel), List.mem_of_getElem? (i := 641) (by decide +kernel), List.mem_of_getElem? (i := 642) (by decide +kernel)⟩
theorem lw_p10 : lw_okq (⟨"HouseClaps$HouseText", "readRowByRow", "()Z"⟩, 7) := ⟨⟨by decide +kernel, by decide +kernel⟩, List.mem_of_getElem? (i := 237) (by decide +kernel), List.mem_of_getElem? (i := 645) (by decide +kernel), List.mem_of_getElem? (i := 646) (by decide +kernel)⟩
theorem lw_p11 : lw_okq (⟨"HouseClaps$House", "setKind", "(II)V"⟩, 13) := ⟨⟨by decide +kernel, by decide +kernel⟩, List.mem_of_getElem? (i := 58) (by decide +kernel), List.mem_of_getElem? (i := 657) (by decide +kernel), List.mem_of_getElem? (i := 658) (by decide +kernel)⟩
theorem lw_p12 : lw_okq (⟨"HouseClaps$House", "surveyAreas", "(I)V"⟩, 13) := ⟨⟨by decide +kernel, by decide +kernel⟩, List.mem_of_getElem? (i := 58) (by decide +kernel), List.mem_of_getElem? (i := 669) (by decide +kernel), List.mem_of_getElem? (i := 670) (by decide +kernel)⟩
theorem lw_p13 : lw_okq (⟨"HouseClaps$House", "span", "(III)J"⟩, 13) := ⟨⟨by decide +kernel, by decide +kernel⟩, List.mem_of_getElem? (i := 58) (by decide +kernel), List.mem_of_getElem? (i := 677) (by decide +kernel), List.mem_of_getElem? (i := 678) (by decide +kernel)⟩
theorem lw_p14 : lw_okq (⟨"HouseClaps$CueText", "readCue", "()Z"⟩, 3) := ⟨⟨by decide +kernel, by decide +kernel⟩, List.mem_of_getElem? (i := 265) (by decide +kernel), List.mem_of_getElem? (i := 733) (by decide +kernel), List.mem_of_getElem? (i := 734) (by decide +kernel)⟩
theorem lw_p15 : lw_okq (⟨"HouseClaps$CueText", "readSeat", "(I)Z"⟩, 3) := ⟨⟨by decide +kernel, by decide +kernel⟩, List.mem_of_getElem? (i := 265) (by decide +kernel), List.mem_of_getElem? (i := 743) (by decide +kernel), List.mem_of_getElem? (i := 744) (by decide +kernel)⟩
def lw_privs_1 : List (MethodName × Nat) := [(⟨"HouseClaps$Tokens", "isSameWord", "(Ljava/lang/String;I)Z"⟩, 9), (⟨"HouseClaps$HouseText", "readRow", "()Z"⟩, 7), (⟨"HouseClaps$HouseText", "readLaw", "(I)Z"⟩, 7), (⟨"HouseClaps$HouseText", "readJoined", "(II)Z"⟩, 7), (⟨"HouseClaps$HouseText", "readOne", "(III)Z"⟩, 7), (⟨"HouseClaps$HouseText", "readCompare", "(Z)Z"⟩, 7), (⟨"HouseClaps$HouseText", "readPrice", "()Z"⟩, 7), (⟨"HouseClaps$HouseText", "readLeaves", "()Z"⟩, 7), (⟨"HouseClaps$HouseText", "readCarry", "()Z"⟩, 7), (⟨"HouseClaps$HouseText", "readPaid", "()Z"⟩, 7), (⟨"HouseClaps$HouseText", "readRowByRow", "()Z"⟩, 7), (⟨"HouseClaps$House", "setKind", "(II)V"⟩, 13), (⟨"HouseClaps$House", "surveyAreas", "(I)V"⟩, 13), (⟨"HouseClaps$House", "span", "(III)J"⟩, 13), (⟨"HouseClaps$CueText", "readCue", "()Z"⟩, 3), (⟨"HouseClaps$CueText", "readSeat", "(I)Z"⟩, 3)]
theorem lw_r1 : ∀ q ∈ lw_privs_1, lw_okq q := List.forall_mem_cons.mpr ⟨lw_p0, List.forall_mem_cons.mpr ⟨lw_p1, List.forall_mem_cons.mpr ⟨lw_p2, List.forall_mem_cons.mpr ⟨lw_p3, List.forall_mem_cons.mpr ⟨lw_p4, List.forall_mem_cons.mpr ⟨lw_p5, List.forall_mem_cons.mpr ⟨lw_p6, List.forall_mem_cons.mpr ⟨lw_p7, List.forall_mem_cons.mpr ⟨lw_p8, List.forall_mem_cons.mpr ⟨lw_p9, List.forall_mem_cons.mpr ⟨lw_p10, List.forall_mem_cons.mpr ⟨lw_p11, List.forall_mem_cons.mpr ⟨lw_p12, List.forall_mem_cons.mpr ⟨lw_p13, List.forall_mem_cons.mpr ⟨lw_p14, List.forall_mem_cons.mpr ⟨lw_p15, fun _ h => absurd h List.not_mem_nil⟩⟩⟩⟩⟩⟩⟩⟩⟩⟩⟩⟩⟩⟩⟩⟩
theorem lw_p16 : lw_okq (⟨"HouseClaps$Night", "doCues", "()Z"⟩, 13) := ⟨⟨by decide +kernel, by decide +kernel⟩, List.mem_of_getElem? (i := 287) (by decide +kernel), List.mem_of_getElem? (i := 776) (by decide +kernel), List.mem_of_getElem? (i := 777) (by decide +kernel)⟩
theorem lw_p17 : lw_okq (⟨"HouseClaps$Night", "seeRowsOff", "()V"⟩, 13) := ⟨⟨by decide +kernel, by decide +kernel⟩, List.mem_of_getElem? (i := 287) (by decide +kernel), List.mem_of_getElem? (i := 781) (by decide +kernel), List.mem_of_getElem? (i := 782) (by decide +kernel)⟩
theorem lw_p18 : lw_okq (⟨"HouseClaps$Night", "standing", "()J"⟩, 13) := ⟨⟨by decide +kernel, by decide +kernel⟩, List.mem_of_getElem? (i := 287) (by decide +kernel), List.mem_of_getElem? (i := 789) (by decide +kernel), List.mem_of_getElem? (i := 790) (by decide +kernel)⟩
theorem lw_p19 : lw_okq (⟨"HouseClaps$Diary", "keep", "()V"⟩, 7) := ⟨⟨by decide +kernel, by decide +kernel⟩, List.mem_of_getElem? (i := 281) (by decide +kernel), List.mem_of_getElem? (i := 794) (by decide +kernel), List.mem_of_getElem? (i := 795) (by decide +kernel)⟩
theorem lw_p20 : lw_okq (⟨"HouseClaps$Night", "move", "(JJJ)V"⟩, 13) := ⟨⟨by decide +kernel, by decide +kernel⟩, List.mem_of_getElem? (i := 287) (by decide +kernel), List.mem_of_getElem? (i := 802) (by decide +kernel), List.mem_of_getElem? (i := 803) (by decide +kernel)⟩
theorem lw_p21 : lw_okq (⟨"HouseClaps$Night", "joined", "(IIJI)J"⟩, 13) := ⟨⟨by decide +kernel, by decide +kernel⟩, List.mem_of_getElem? (i := 287) (by decide +kernel), List.mem_of_getElem? (i := 806) (by decide +kernel), List.mem_of_getElem? (i := 807) (by decide +kernel)⟩
theorem lw_p22 : lw_okq (⟨"HouseClaps$Night", "holding", "(IJI)J"⟩, 13) := ⟨⟨by decide +kernel, by decide +kernel⟩, List.mem_of_getElem? (i := 287) (by decide +kernel), List.mem_of_getElem? (i := 810) (by decide +kernel), List.mem_of_getElem? (i := 811) (by decide +kernel)⟩
theorem lw_p23 : lw_okq (⟨"HouseClaps$Night", "levelWithin", "(II)J"⟩, 13) := ⟨⟨by decide +kernel, by decide +kernel⟩, List.mem_of_getElem? (i := 287) (by decide +kernel), List.mem_of_getElem? (i := 814) (by decide +kernel), List.mem_of_getElem? (i := 815) (by decide +kernel)⟩
theorem lw_p24 : lw_okq (⟨"HouseClaps$Night", "heldWithin", "(II)J"⟩, 13) := ⟨⟨by decide +kernel, by decide +kernel⟩, List.mem_of_getElem? (i := 287) (by decide +kernel), List.mem_of_getElem? (i := 818) (by decide +kernel), List.mem_of_getElem? (i := 819) (by decide +kernel)⟩
theorem lw_p25 : lw_okq (⟨"HouseClaps$Night", "hold", "(J)V"⟩, 13) := ⟨⟨by decide +kernel, by decide +kernel⟩, List.mem_of_getElem? (i := 287) (by decide +kernel), List.mem_of_getElem? (i := 828) (by decide +kernel), List.mem_of_getElem? (i := 829) (by decide +kernel)⟩
theorem lw_p26 : lw_okq (⟨"HouseClaps$Evening", "isSomebodyPaid", "()Z"⟩, 7) := ⟨⟨by decide +kernel, by decide +kernel⟩, List.mem_of_getElem? (i := 52) (by decide +kernel), List.mem_of_getElem? (i := 894) (by decide +kernel), List.mem_of_getElem? (i := 895) (by decide +kernel)⟩
theorem lw_p27 : lw_okq (⟨"HouseClaps$Diary", "areAlike", "(II)Z"⟩, 7) := ⟨⟨by decide +kernel, by decide +kernel⟩, List.mem_of_getElem? (i := 281) (by decide +kernel), List.mem_of_getElem? (i := 903) (by decide +kernel), List.mem_of_getElem? (i := 904) (by decide +kernel)⟩
theorem lw_p28 : lw_okq (⟨"HouseClaps$Trials", "seatsOf", "(II)J"⟩, 17) := ⟨⟨by decide +kernel, by decide +kernel⟩, List.mem_of_getElem? (i := 371) (by decide +kernel), List.mem_of_getElem? (i := 933) (by decide +kernel), List.mem_of_getElem? (i := 934) (by decide +kernel)⟩
theorem lw_p29 : lw_okq (⟨"HouseClaps$Trials", "priceOfSet", "(II)I"⟩, 17) := ⟨⟨by decide +kernel, by decide +kernel⟩, List.mem_of_getElem? (i := 371) (by decide +kernel), List.mem_of_getElem? (i := 937) (by decide +kernel), List.mem_of_getElem? (i := 938) (by decide +kernel)⟩
theorem lw_p30 : lw_okq (⟨"HouseClaps$Trials", "hasFoundPart", "(II)Z"⟩, 17) := ⟨⟨by decide +kernel, by decide +kernel⟩, List.mem_of_getElem? (i := 371) (by decide +kernel), List.mem_of_getElem? (i := 976) (by decide +kernel), List.mem_of_getElem? (i := 977) (by decide +kernel)⟩
theorem lw_p31 : lw_okq (⟨"HouseClaps$Trials", "addsOf", "(II)I"⟩, 17) := ⟨⟨by decide +kernel, by decide +kernel⟩, List.mem_of_getElem? (i := 371) (by decide +kernel), List.mem_of_getElem? (i := 988) (by decide +kernel), List.mem_of_getElem? (i := 989) (by decide +kernel)⟩
def lw_privs_2 : List (MethodName × Nat) := [(⟨"HouseClaps$Night", "doCues", "()Z"⟩, 13), (⟨"HouseClaps$Night", "seeRowsOff", "()V"⟩, 13), (⟨"HouseClaps$Night", "standing", "()J"⟩, 13), (⟨"HouseClaps$Diary", "keep", "()V"⟩, 7), (⟨"HouseClaps$Night", "move", "(JJJ)V"⟩, 13), (⟨"HouseClaps$Night", "joined", "(IIJI)J"⟩, 13), (⟨"HouseClaps$Night", "holding", "(IJI)J"⟩, 13), (⟨"HouseClaps$Night", "levelWithin", "(II)J"⟩, 13), (⟨"HouseClaps$Night", "heldWithin", "(II)J"⟩, 13), (⟨"HouseClaps$Night", "hold", "(J)V"⟩, 13), (⟨"HouseClaps$Evening", "isSomebodyPaid", "()Z"⟩, 7), (⟨"HouseClaps$Diary", "areAlike", "(II)Z"⟩, 7), (⟨"HouseClaps$Trials", "seatsOf", "(II)J"⟩, 17), (⟨"HouseClaps$Trials", "priceOfSet", "(II)I"⟩, 17), (⟨"HouseClaps$Trials", "hasFoundPart", "(II)Z"⟩, 17), (⟨"HouseClaps$Trials", "addsOf", "(II)I"⟩, 17)]
theorem lw_r2 : ∀ q ∈ lw_privs_2, lw_okq q := List.forall_mem_cons.mpr ⟨lw_p16, List.forall_mem_cons.mpr ⟨lw_p17, List.forall_mem_cons.mpr ⟨lw_p18, List.forall_mem_cons.mpr ⟨lw_p19, List.forall_mem_cons.mpr ⟨lw_p20, List.forall_mem_cons.mpr ⟨lw_p21, List.forall_mem_cons.mpr ⟨lw_p22, List.forall_mem_cons.mpr ⟨lw_p23, List.forall_mem_cons.mpr ⟨lw_p24, List.forall_mem_cons.mpr ⟨lw_p25, List.forall_mem_cons.mpr ⟨lw_p26, List.forall_mem_cons.mpr ⟨lw_p27, List.forall_mem_cons.mpr ⟨lw_p28, List.forall_mem_cons.mpr ⟨lw_p29, List.forall_mem_cons.mpr ⟨lw_p30, List.forall_mem_cons.mpr ⟨lw_p31, fun _ h => absurd h List.not_mem_nil⟩⟩⟩⟩⟩⟩⟩⟩⟩⟩⟩⟩⟩⟩⟩⟩
theorem lw_p32 : lw_okq (⟨"HouseClaps", "isLarge", "()Z"⟩, 11) := ⟨⟨by decide +kernel, by decide +kernel⟩, List.mem_of_getElem? (i := 26) (by decide +kernel), List.mem_of_getElem? (i := 1015) (by decide +kernel), List.mem_of_getElem? (i := 1016) (by decide +kernel)⟩
theorem lw_p33 : lw_okq (⟨"HouseClaps$Trials", "isAsSketched", "()Z"⟩, 17) := ⟨⟨by decide +kernel, by decide +kernel⟩, List.mem_of_getElem? (i := 371) (by decide +kernel), List.mem_of_getElem? (i := 1031) (by decide +kernel), List.mem_of_getElem? (i := 1032) (by decide +kernel)⟩
theorem lw_p34 : lw_okq (⟨"java/lang/Throwable", "fillInStackTrace", "(I)Ljava/lang/Throwable;"⟩, 6) := ⟨⟨by decide +kernel, by decide +kernel⟩, List.mem_of_getElem? (i := 1147) (by decide +kernel), List.mem_of_getElem? (i := 1145) (by decide +kernel), List.mem_of_getElem? (i := 1146) (by decide +kernel)⟩
theorem lw_p35 : lw_okq (⟨"HouseClapsModel", "four", "(I)V"⟩, 69) := ⟨⟨by decide +kernel, by decide +kernel⟩, List.mem_of_getElem? (i := 1208) (by decide +kernel), List.mem_of_getElem? (i := 1206) (by decide +kernel), List.mem_of_getElem? (i := 1207) (by decide +kernel)⟩
theorem lw_p36 : lw_okq (⟨"HouseClapsModel", "plainHouse", "()V"⟩, 69) := ⟨⟨by decide +kernel, by decide +kernel⟩, List.mem_of_getElem? (i := 1208) (by decide +kernel), List.mem_of_getElem? (i := 1220) (by decide +kernel), List.mem_of_getElem? (i := 1221) (by decide +kernel)⟩
theorem lw_p37 : lw_okq (⟨"HouseClapsModel", "taken", "(I)V"⟩, 69) := ⟨⟨by decide +kernel, by decide +kernel⟩, List.mem_of_getElem? (i := 1208) (by decide +kernel), List.mem_of_getElem? (i := 1437) (by decide +kernel), List.mem_of_getElem? (i := 1438) (by decide +kernel)⟩
theorem lw_p38 : lw_okq (⟨"HouseClapsModel", "next", "()V"⟩, 69) := ⟨⟨by decide +kernel, by decide +kernel⟩, List.mem_of_getElem? (i := 1208) (by decide +kernel), List.mem_of_getElem? (i := 1441) (by decide +kernel), List.mem_of_getElem? (i := 1442) (by decide +kernel)⟩
theorem lw_p39 : lw_okq (⟨"HouseClapsModel", "peek", "()I"⟩, 69) := ⟨⟨by decide +kernel, by decide +kernel⟩, List.mem_of_getElem? (i := 1208) (by decide +kernel), List.mem_of_getElem? (i := 1445) (by decide +kernel), List.mem_of_getElem? (i := 1446) (by decide +kernel)⟩
theorem lw_p40 : lw_okq (⟨"HouseClapsModel", "line", "()Z"⟩, 69) := ⟨⟨by decide +kernel, by decide +kernel⟩, List.mem_of_getElem? (i := 1208) (by decide +kernel), List.mem_of_getElem? (i := 1455) (by decide +kernel), List.mem_of_getElem? (i := 1456) (by decide +kernel)⟩
theorem lw_p41 : lw_okq (⟨"HouseClapsModel", "isWord", "(J)Z"⟩, 69) := ⟨⟨by decide +kernel, by decide +kernel⟩, List.mem_of_getElem? (i := 1208) (by decide +kernel), List.mem_of_getElem? (i := 1460) (by decide +kernel), List.mem_of_getElem? (i := 1461) (by decide +kernel)⟩
theorem lw_p42 : lw_okq (⟨"HouseClapsModel", "readRow", "()Z"⟩, 69) := ⟨⟨by decide +kernel, by decide +kernel⟩, List.mem_of_getElem? (i := 1208) (by decide +kernel), List.mem_of_getElem? (i := 1464) (by decide +kernel), List.mem_of_getElem? (i := 1465) (by decide +kernel)⟩
theorem lw_p43 : lw_okq (⟨"HouseClapsModel", "bad", "(I)Z"⟩, 69) := ⟨⟨by decide +kernel, by decide +kernel⟩, List.mem_of_getElem? (i := 1208) (by decide +kernel), List.mem_of_getElem? (i := 1468) (by decide +kernel), List.mem_of_getElem? (i := 1469) (by decide +kernel)⟩
theorem lw_p44 : lw_okq (⟨"HouseClapsModel", "octet", "(I)I"⟩, 69) := ⟨⟨by decide +kernel, by decide +kernel⟩, List.mem_of_getElem? (i := 1208) (by decide +kernel), List.mem_of_getElem? (i := 1472) (by decide +kernel), List.mem_of_getElem? (i := 1473) (by decide +kernel)⟩
theorem lw_p45 : lw_okq (⟨"HouseClapsModel", "readLaw", "(I)Z"⟩, 69) := ⟨⟨by decide +kernel, by decide +kernel⟩, List.mem_of_getElem? (i := 1208) (by decide +kernel), List.mem_of_getElem? (i := 1480) (by decide +kernel), List.mem_of_getElem? (i := 1481) (by decide +kernel)⟩
theorem lw_p46 : lw_okq (⟨"HouseClapsModel", "cond", "()Z"⟩, 69) := ⟨⟨by decide +kernel, by decide +kernel⟩, List.mem_of_getElem? (i := 1208) (by decide +kernel), List.mem_of_getElem? (i := 1484) (by decide +kernel), List.mem_of_getElem? (i := 1485) (by decide +kernel)⟩
theorem lw_p47 : lw_okq (⟨"HouseClapsModel", "one", "()Z"⟩, 69) := ⟨⟨by decide +kernel, by decide +kernel⟩, List.mem_of_getElem? (i := 1208) (by decide +kernel), List.mem_of_getElem? (i := 1488) (by decide +kernel), List.mem_of_getElem? (i := 1489) (by decide +kernel)⟩
def lw_privs_3 : List (MethodName × Nat) := [(⟨"HouseClaps", "isLarge", "()Z"⟩, 11), (⟨"HouseClaps$Trials", "isAsSketched", "()Z"⟩, 17), (⟨"java/lang/Throwable", "fillInStackTrace", "(I)Ljava/lang/Throwable;"⟩, 6), (⟨"HouseClapsModel", "four", "(I)V"⟩, 69), (⟨"HouseClapsModel", "plainHouse", "()V"⟩, 69), (⟨"HouseClapsModel", "taken", "(I)V"⟩, 69), (⟨"HouseClapsModel", "next", "()V"⟩, 69), (⟨"HouseClapsModel", "peek", "()I"⟩, 69), (⟨"HouseClapsModel", "line", "()Z"⟩, 69), (⟨"HouseClapsModel", "isWord", "(J)Z"⟩, 69), (⟨"HouseClapsModel", "readRow", "()Z"⟩, 69), (⟨"HouseClapsModel", "bad", "(I)Z"⟩, 69), (⟨"HouseClapsModel", "octet", "(I)I"⟩, 69), (⟨"HouseClapsModel", "readLaw", "(I)Z"⟩, 69), (⟨"HouseClapsModel", "cond", "()Z"⟩, 69), (⟨"HouseClapsModel", "one", "()Z"⟩, 69)]
theorem lw_r3 : ∀ q ∈ lw_privs_3, lw_okq q := List.forall_mem_cons.mpr ⟨lw_p32, List.forall_mem_cons.mpr ⟨lw_p33, List.forall_mem_cons.mpr ⟨lw_p34, List.forall_mem_cons.mpr ⟨lw_p35, List.forall_mem_cons.mpr ⟨lw_p36, List.forall_mem_cons.mpr ⟨lw_p37, List.forall_mem_cons.mpr ⟨lw_p38, List.forall_mem_cons.mpr ⟨lw_p39, List.forall_mem_cons.mpr ⟨lw_p40, List.forall_mem_cons.mpr ⟨lw_p41, List.forall_mem_cons.mpr ⟨lw_p42, List.forall_mem_cons.mpr ⟨lw_p43, List.forall_mem_cons.mpr ⟨lw_p44, List.forall_mem_cons.mpr ⟨lw_p45, List.forall_mem_cons.mpr ⟨lw_p46, List.forall_mem_cons.mpr ⟨lw_p47, fun _ h => absurd h List.not_mem_nil⟩⟩⟩⟩⟩⟩⟩⟩⟩⟩⟩⟩⟩⟩⟩⟩
theorem lw_p48 : lw_okq (⟨"HouseClapsModel", "atom", "()I"⟩, 69) := ⟨⟨by decide +kernel, by decide +kernel⟩, List.mem_of_getElem? (i := 1208) (by decide +kernel), List.mem_of_getElem? (i := 1493) (by decide +kernel), List.mem_of_getElem? (i := 1494) (by decide +kernel)⟩
theorem lw_p49 : lw_okq (⟨"HouseClapsModel", "isSign", "(I)Z"⟩, 69) := ⟨⟨by decide +kernel, by decide +kernel⟩, List.mem_of_getElem? (i := 1208) (by decide +kernel), List.mem_of_getElem? (i := 1505) (by decide +kernel), List.mem_of_getElem? (i := 1506) (by decide +kernel)⟩
theorem lw_p50 : lw_okq (⟨"HouseClapsModel", "opened", "()I"⟩, 69) := ⟨⟨by decide +kernel, by decide +kernel⟩, List.mem_of_getElem? (i := 1208) (by decide +kernel), List.mem_of_getElem? (i := 1509) (by decide +kernel), List.mem_of_getElem? (i := 1510) (by decide +kernel)⟩
theorem lw_p51 : lw_okq (⟨"HouseClapsModel", "asks", "(I)Z"⟩, 69) := ⟨⟨by decide +kernel, by decide +kernel⟩, List.mem_of_getElem? (i := 1208) (by decide +kernel), List.mem_of_getElem? (i := 1513) (by decide +kernel), List.mem_of_getElem? (i := 1514) (by decide +kernel)⟩
theorem lw_p52 : lw_okq (⟨"HouseClapsModel", "takes", "(II)Z"⟩, 69) := ⟨⟨by decide +kernel, by decide +kernel⟩, List.mem_of_getElem? (i := 1208) (by decide +kernel), List.mem_of_getElem? (i := 1517) (by decide +kernel), List.mem_of_getElem? (i := 1518) (by decide +kernel)⟩
theorem lw_p53 : lw_okq (⟨"HouseClapsModel", "write", "(I)V"⟩, 69) := ⟨⟨by decide +kernel, by decide +kernel⟩, List.mem_of_getElem? (i := 1208) (by decide +kernel), List.mem_of_getElem? (i := 1521) (by decide +kernel), List.mem_of_getElem? (i := 1522) (by decide +kernel)⟩
theorem lw_p54 : lw_okq (⟨"HouseClapsModel", "writeDown", "(I)V"⟩, 69) := ⟨⟨by decide +kernel, by decide +kernel⟩, List.mem_of_getElem? (i := 1208) (by decide +kernel), List.mem_of_getElem? (i := 1525) (by decide +kernel), List.mem_of_getElem? (i := 1526) (by decide +kernel)⟩
theorem lw_p55 : lw_okq (⟨"HouseClapsModel", "isOpen", "()Z"⟩, 69) := ⟨⟨by decide +kernel, by decide +kernel⟩, List.mem_of_getElem? (i := 1208) (by decide +kernel), List.mem_of_getElem? (i := 1532) (by decide +kernel), List.mem_of_getElem? (i := 1533) (by decide +kernel)⟩
theorem lw_p56 : lw_okq (⟨"HouseClapsModel", "takesRow", "(I)Z"⟩, 69) := ⟨⟨by decide +kernel, by decide +kernel⟩, List.mem_of_getElem? (i := 1208) (by decide +kernel), List.mem_of_getElem? (i := 1540) (by decide +kernel), List.mem_of_getElem? (i := 1541) (by decide +kernel)⟩
theorem lw_p57 : lw_okq (⟨"HouseClapsModel", "once", "(IIII)Z"⟩, 69) := ⟨⟨by decide +kernel, by decide +kernel⟩, List.mem_of_getElem? (i := 1208) (by decide +kernel), List.mem_of_getElem? (i := 1549) (by decide +kernel), List.mem_of_getElem? (i := 1550) (by decide +kernel)⟩
theorem lw_p58 : lw_okq (⟨"HouseClapsModel", "sign", "(I)Z"⟩, 69) := ⟨⟨by decide +kernel, by decide +kernel⟩, List.mem_of_getElem? (i := 1208) (by decide +kernel), List.mem_of_getElem? (i := 1555) (by decide +kernel), List.mem_of_getElem? (i := 1556) (by decide +kernel)⟩
theorem lw_p59 : lw_okq (⟨"HouseClapsModel", "isSeat", "(I)Z"⟩, 69) := ⟨⟨by decide +kernel, by decide +kernel⟩, List.mem_of_getElem? (i := 1208) (by decide +kernel), List.mem_of_getElem? (i := 1567) (by decide +kernel), List.mem_of_getElem? (i := 1568) (by decide +kernel)⟩
theorem lw_p60 : lw_okq (⟨"HouseClapsModel", "throwsIf", "(Z)Z"⟩, 69) := ⟨⟨by decide +kernel, by decide +kernel⟩, List.mem_of_getElem? (i := 1208) (by decide +kernel), List.mem_of_getElem? (i := 1571) (by decide +kernel), List.mem_of_getElem? (i := 1572) (by decide +kernel)⟩
theorem lw_p61 : lw_okq (⟨"HouseClapsModel", "price", "(I)I"⟩, 69) := ⟨⟨by decide +kernel, by decide +kernel⟩, List.mem_of_getElem? (i := 1208) (by decide +kernel), List.mem_of_getElem? (i := 1575) (by decide +kernel), List.mem_of_getElem? (i := 1576) (by decide +kernel)⟩
theorem lw_p62 : lw_okq (⟨"HouseClapsModel", "readCue", "()Z"⟩, 69) := ⟨⟨by decide +kernel, by decide +kernel⟩, List.mem_of_getElem? (i := 1208) (by decide +kernel), List.mem_of_getElem? (i := 1599) (by decide +kernel), List.mem_of_getElem? (i := 1600) (by decide +kernel)⟩
theorem lw_p63 : lw_okq (⟨"HouseClapsModel", "isSeatAt", "(II)Z"⟩, 69) := ⟨⟨by decide +kernel, by decide +kernel⟩, List.mem_of_getElem? (i := 1208) (by decide +kernel), List.mem_of_getElem? (i := 1608) (by decide +kernel), List.mem_of_getElem? (i := 1609) (by decide +kernel)⟩
def lw_privs_4 : List (MethodName × Nat) := [(⟨"HouseClapsModel", "atom", "()I"⟩, 69), (⟨"HouseClapsModel", "isSign", "(I)Z"⟩, 69), (⟨"HouseClapsModel", "opened", "()I"⟩, 69), (⟨"HouseClapsModel", "asks", "(I)Z"⟩, 69), (⟨"HouseClapsModel", "takes", "(II)Z"⟩, 69), (⟨"HouseClapsModel", "write", "(I)V"⟩, 69), (⟨"HouseClapsModel", "writeDown", "(I)V"⟩, 69), (⟨"HouseClapsModel", "isOpen", "()Z"⟩, 69), (⟨"HouseClapsModel", "takesRow", "(I)Z"⟩, 69), (⟨"HouseClapsModel", "once", "(IIII)Z"⟩, 69), (⟨"HouseClapsModel", "sign", "(I)Z"⟩, 69), (⟨"HouseClapsModel", "isSeat", "(I)Z"⟩, 69), (⟨"HouseClapsModel", "throwsIf", "(Z)Z"⟩, 69), (⟨"HouseClapsModel", "price", "(I)I"⟩, 69), (⟨"HouseClapsModel", "readCue", "()Z"⟩, 69), (⟨"HouseClapsModel", "isSeatAt", "(II)Z"⟩, 69)]
theorem lw_r4 : ∀ q ∈ lw_privs_4, lw_okq q := List.forall_mem_cons.mpr ⟨lw_p48, List.forall_mem_cons.mpr ⟨lw_p49, List.forall_mem_cons.mpr ⟨lw_p50, List.forall_mem_cons.mpr ⟨lw_p51, List.forall_mem_cons.mpr ⟨lw_p52, List.forall_mem_cons.mpr ⟨lw_p53, List.forall_mem_cons.mpr ⟨lw_p54, List.forall_mem_cons.mpr ⟨lw_p55, List.forall_mem_cons.mpr ⟨lw_p56, List.forall_mem_cons.mpr ⟨lw_p57, List.forall_mem_cons.mpr ⟨lw_p58, List.forall_mem_cons.mpr ⟨lw_p59, List.forall_mem_cons.mpr ⟨lw_p60, List.forall_mem_cons.mpr ⟨lw_p61, List.forall_mem_cons.mpr ⟨lw_p62, List.forall_mem_cons.mpr ⟨lw_p63, fun _ h => absurd h List.not_mem_nil⟩⟩⟩⟩⟩⟩⟩⟩⟩⟩⟩⟩⟩⟩⟩⟩
theorem lw_p64 : lw_okq (⟨"HouseClapsModel", "night", "(I)V"⟩, 69) := ⟨⟨by decide +kernel, by decide +kernel⟩, List.mem_of_getElem? (i := 1208) (by decide +kernel), List.mem_of_getElem? (i := 1623) (by decide +kernel), List.mem_of_getElem? (i := 1624) (by decide +kernel)⟩
theorem lw_p65 : lw_okq (⟨"HouseClapsModel", "begin", "(JJ)V"⟩, 69) := ⟨⟨by decide +kernel, by decide +kernel⟩, List.mem_of_getElem? (i := 1208) (by decide +kernel), List.mem_of_getElem? (i := 1627) (by decide +kernel), List.mem_of_getElem? (i := 1628) (by decide +kernel)⟩
theorem lw_p66 : lw_okq (⟨"HouseClapsModel", "layOut", "()V"⟩, 69) := ⟨⟨by decide +kernel, by decide +kernel⟩, List.mem_of_getElem? (i := 1208) (by decide +kernel), List.mem_of_getElem? (i := 1631) (by decide +kernel), List.mem_of_getElem? (i := 1632) (by decide +kernel)⟩
theorem lw_p67 : lw_okq (⟨"HouseClapsModel", "bitAt", "(II)J"⟩, 69) := ⟨⟨by decide +kernel, by decide +kernel⟩, List.mem_of_getElem? (i := 1208) (by decide +kernel), List.mem_of_getElem? (i := 1635) (by decide +kernel), List.mem_of_getElem? (i := 1636) (by decide +kernel)⟩
theorem lw_p68 : lw_okq (⟨"HouseClapsModel", "moment", "()V"⟩, 69) := ⟨⟨by decide +kernel, by decide +kernel⟩, List.mem_of_getElem? (i := 1208) (by decide +kernel), List.mem_of_getElem? (i := 1639) (by decide +kernel), List.mem_of_getElem? (i := 1640) (by decide +kernel)⟩
theorem lw_p69 : lw_okq (⟨"HouseClapsModel", "levelOf", "(I)I"⟩, 69) := ⟨⟨by decide +kernel, by decide +kernel⟩, List.mem_of_getElem? (i := 1208) (by decide +kernel), List.mem_of_getElem? (i := 1643) (by decide +kernel), List.mem_of_getElem? (i := 1644) (by decide +kernel)⟩
theorem lw_p70 : lw_okq (⟨"HouseClapsModel", "heldOf", "(I)I"⟩, 69) := ⟨⟨by decide +kernel, by decide +kernel⟩, List.mem_of_getElem? (i := 1208) (by decide +kernel), List.mem_of_getElem? (i := 1647) (by decide +kernel), List.mem_of_getElem? (i := 1648) (by decide +kernel)⟩
theorem lw_p71 : lw_okq (⟨"HouseClapsModel", "lawLevel", "(IJJII)I"⟩, 69) := ⟨⟨by decide +kernel, by decide +kernel⟩, List.mem_of_getElem? (i := 1208) (by decide +kernel), List.mem_of_getElem? (i := 1651) (by decide +kernel), List.mem_of_getElem? (i := 1652) (by decide +kernel)⟩
theorem lw_p72 : lw_okq (⟨"HouseClapsModel", "isLaw", "(IIJJII)Z"⟩, 69) := ⟨⟨by decide +kernel, by decide +kernel⟩, List.mem_of_getElem? (i := 1208) (by decide +kernel), List.mem_of_getElem? (i := 1655) (by decide +kernel), List.mem_of_getElem? (i := 1656) (by decide +kernel)⟩
theorem lw_p73 : lw_okq (⟨"HouseClapsModel", "isUp", "(I)Z"⟩, 69) := ⟨⟨by decide +kernel, by decide +kernel⟩, List.mem_of_getElem? (i := 1208) (by decide +kernel), List.mem_of_getElem? (i := 1690) (by decide +kernel), List.mem_of_getElem? (i := 1691) (by decide +kernel)⟩
theorem lw_p74 : lw_okq (⟨"HouseClapsModel", "areLike", "(II)Z"⟩, 69) := ⟨⟨by decide +kernel, by decide +kernel⟩, List.mem_of_getElem? (i := 1208) (by decide +kernel), List.mem_of_getElem? (i := 1702) (by decide +kernel), List.mem_of_getElem? (i := 1703) (by decide +kernel)⟩
theorem lw_p75 : lw_okq (⟨"HouseClapsModel", "height", "(JJ)I"⟩, 69) := ⟨⟨by decide +kernel, by decide +kernel⟩, List.mem_of_getElem? (i := 1208) (by decide +kernel), List.mem_of_getElem? (i := 1710) (by decide +kernel), List.mem_of_getElem? (i := 1711) (by decide +kernel)⟩
theorem lw_p76 : lw_okq (⟨"HouseClapsModel", "areEight", "()Z"⟩, 69) := ⟨⟨by decide +kernel, by decide +kernel⟩, List.mem_of_getElem? (i := 1208) (by decide +kernel), List.mem_of_getElem? (i := 1718) (by decide +kernel), List.mem_of_getElem? (i := 1719) (by decide +kernel)⟩
theorem lw_p77 : lw_okq (⟨"HouseClapsModel", "takesSeats", "(II)Z"⟩, 69) := ⟨⟨by decide +kernel, by decide +kernel⟩, List.mem_of_getElem? (i := 1208) (by decide +kernel), List.mem_of_getElem? (i := 1722) (by decide +kernel), List.mem_of_getElem? (i := 1723) (by decide +kernel)⟩
theorem lw_p78 : lw_okq (⟨"HouseClapsModel", "bitsOf", "(I)J"⟩, 69) := ⟨⟨by decide +kernel, by decide +kernel⟩, List.mem_of_getElem? (i := 1208) (by decide +kernel), List.mem_of_getElem? (i := 1727) (by decide +kernel), List.mem_of_getElem? (i := 1728) (by decide +kernel)⟩
theorem lw_p79 : lw_okq (⟨"HouseClapsModel", "isSketch", "(JI)Z"⟩, 69) := ⟨⟨by decide +kernel, by decide +kernel⟩, List.mem_of_getElem? (i := 1208) (by decide +kernel), List.mem_of_getElem? (i := 1766) (by decide +kernel), List.mem_of_getElem? (i := 1767) (by decide +kernel)⟩
def lw_privs_5 : List (MethodName × Nat) := [(⟨"HouseClapsModel", "night", "(I)V"⟩, 69), (⟨"HouseClapsModel", "begin", "(JJ)V"⟩, 69), (⟨"HouseClapsModel", "layOut", "()V"⟩, 69), (⟨"HouseClapsModel", "bitAt", "(II)J"⟩, 69), (⟨"HouseClapsModel", "moment", "()V"⟩, 69), (⟨"HouseClapsModel", "levelOf", "(I)I"⟩, 69), (⟨"HouseClapsModel", "heldOf", "(I)I"⟩, 69), (⟨"HouseClapsModel", "lawLevel", "(IJJII)I"⟩, 69), (⟨"HouseClapsModel", "isLaw", "(IIJJII)Z"⟩, 69), (⟨"HouseClapsModel", "isUp", "(I)Z"⟩, 69), (⟨"HouseClapsModel", "areLike", "(II)Z"⟩, 69), (⟨"HouseClapsModel", "height", "(JJ)I"⟩, 69), (⟨"HouseClapsModel", "areEight", "()Z"⟩, 69), (⟨"HouseClapsModel", "takesSeats", "(II)Z"⟩, 69), (⟨"HouseClapsModel", "bitsOf", "(I)J"⟩, 69), (⟨"HouseClapsModel", "isSketch", "(JI)Z"⟩, 69)]
theorem lw_r5 : ∀ q ∈ lw_privs_5, lw_okq q := List.forall_mem_cons.mpr ⟨lw_p64, List.forall_mem_cons.mpr ⟨lw_p65, List.forall_mem_cons.mpr ⟨lw_p66, List.forall_mem_cons.mpr ⟨lw_p67, List.forall_mem_cons.mpr ⟨lw_p68, List.forall_mem_cons.mpr ⟨lw_p69, List.forall_mem_cons.mpr ⟨lw_p70, List.forall_mem_cons.mpr ⟨lw_p71, List.forall_mem_cons.mpr ⟨lw_p72, List.forall_mem_cons.mpr ⟨lw_p73, List.forall_mem_cons.mpr ⟨lw_p74, List.forall_mem_cons.mpr ⟨lw_p75, List.forall_mem_cons.mpr ⟨lw_p76, List.forall_mem_cons.mpr ⟨lw_p77, List.forall_mem_cons.mpr ⟨lw_p78, List.forall_mem_cons.mpr ⟨lw_p79, fun _ h => absurd h List.not_mem_nil⟩⟩⟩⟩⟩⟩⟩⟩⟩⟩⟩⟩⟩⟩⟩⟩
theorem lw_p80 : lw_okq (⟨"HouseClapsModel", "areUnlike", "(II)Z"⟩, 69) := ⟨⟨by decide +kernel, by decide +kernel⟩, List.mem_of_getElem? (i := 1208) (by decide +kernel), List.mem_of_getElem? (i := 1782) (by decide +kernel), List.mem_of_getElem? (i := 1783) (by decide +kernel)⟩
theorem lw_p81 : lw_okq (⟨"HouseClapsModel", "change", "(II)V"⟩, 69) := ⟨⟨by decide +kernel, by decide +kernel⟩, List.mem_of_getElem? (i := 1208) (by decide +kernel), List.mem_of_getElem? (i := 1786) (by decide +kernel), List.mem_of_getElem? (i := 1787) (by decide +kernel)⟩
theorem lw_p82 : lw_okq (⟨"HouseClapsModel", "arranges", "(I)Z"⟩, 69) := ⟨⟨by decide +kernel, by decide +kernel⟩, List.mem_of_getElem? (i := 1208) (by decide +kernel), List.mem_of_getElem? (i := 1798) (by decide +kernel), List.mem_of_getElem? (i := 1799) (by decide +kernel)⟩
theorem lw_p83 : lw_okq (⟨"HouseClapsModel", "draw", "(I)I"⟩, 69) := ⟨⟨by decide +kernel, by decide +kernel⟩, List.mem_of_getElem? (i := 1208) (by decide +kernel), List.mem_of_getElem? (i := 1818) (by decide +kernel), List.mem_of_getElem? (i := 1819) (by decide +kernel)⟩
def lw_privs_6 : List (MethodName × Nat) := [(⟨"HouseClapsModel", "areUnlike", "(II)Z"⟩, 69), (⟨"HouseClapsModel", "change", "(II)V"⟩, 69), (⟨"HouseClapsModel", "arranges", "(I)Z"⟩, 69), (⟨"HouseClapsModel", "draw", "(I)I"⟩, 69)]
theorem lw_r6 : ∀ q ∈ lw_privs_6, lw_okq q := List.forall_mem_cons.mpr ⟨lw_p80, List.forall_mem_cons.mpr ⟨lw_p81, List.forall_mem_cons.mpr ⟨lw_p82, List.forall_mem_cons.mpr ⟨lw_p83, fun _ h => absurd h List.not_mem_nil⟩⟩⟩⟩
def lw_privs : List (MethodName × Nat) := lw_privs_1 ++ (lw_privs_2 ++ (lw_privs_3 ++ (lw_privs_4 ++ (lw_privs_5 ++ (lw_privs_6)))))
def lw_tbl : List Cond := k2_sels lw_privs ++ tables_1
theorem lw_privs_ok : ∀ q ∈ lw_privs, lw_okq q := by
  show ∀ q ∈ lw_privs_1 ++ (lw_privs_2 ++ (lw_privs_3 ++ (lw_privs_4 ++ (lw_privs_5 ++ (lw_privs_6))))), lw_okq q
  exact List.forall_mem_append.mpr ⟨lw_r1, List.forall_mem_append.mpr ⟨lw_r2, List.forall_mem_append.mpr ⟨lw_r3, List.forall_mem_append.mpr ⟨lw_r4, List.forall_mem_append.mpr ⟨lw_r5, lw_r6⟩⟩⟩⟩⟩
end
section
/-! ===== BEGIN words of one list among another's, by their places ===== -/
theorem goodIn_r {big : List Cond} (ws : List Cond) (ps : List Nat) (hp : ws = ps.filterMap (fun i => big[i]?)) (h : ws.all goodWord = true) : GoodIn big ws := by
  intro w hw
  have h1 := List.all_eq_true.mp h w hw
  rw [hp] at hw
  obtain ⟨i, -, hi⟩ := List.mem_filterMap.mp hw
  have hm : w ∈ big := by first | exact List.mem_of_getElem? hi | exact List.getElem?_mem hi
  exact ⟨hm, good_of_word h1⟩
theorem goodIn_app {big a b : List Cond} (ha : GoodIn big a) (hb : GoodIn big b) : GoodIn big (a ++ b) := fun w h => (List.mem_append.mp h).elim (ha w) (hb w)
theorem goodIn_ca {big a b : List Cond} {c : Cond} (ha : GoodIn big (c :: a)) (hb : GoodIn big b) : GoodIn big (c :: (a ++ b)) := fun w h => (List.mem_cons.mp h).elim (fun e => ha w (List.mem_cons.mpr (Or.inl e))) (fun h => (List.mem_append.mp h).elim (fun h => ha w (List.mem_cons.mpr (Or.inr h))) (hb w))
theorem goodIn_sub {big ws : List Cond} (hm : ∀ w ∈ ws, w ∈ big) (h : ws.all goodWord = true) : GoodIn big ws := fun w hw => ⟨hm w hw, good_of_word (List.all_eq_true.mp h w hw)⟩
/-! ===== END ===== -/
/-! ===== BEGIN printed: names, fields, word lists, decode rows ===== -/
def RX0 : String := "HouseClaps$CueText"
def TX0 : u_T := fun k => match k with
  | 0 => ("HouseClaps$CueText", "tokens", "LHouseClaps$Tokens;", true)
  | 1 => ("HouseClaps$CueText", "house", "LHouseClaps$House;", true)
  | _ => ("HouseClaps$CueText", "target", "LHouseClaps$Evening;", true)
def tyX0 : Nat → FieldType := fun k => match k with
  | 0 => .object "HouseClaps$Tokens"
  | 1 => .object "HouseClaps$House"
  | _ => .object "HouseClaps$Evening"
abbrev wsX00 : List Cond := u_ws RX0 TX0 3
theorem nmX0 : ∀ a, a < 3 → ∀ b, b < 3 → a ≠ b → (TX0 a).2.1 ≠ (TX0 b).2.1 := by decide +kernel
theorem tyX0_ok : ∀ k, k < 3 → parseFieldDescriptor (TX0 k).2.2.1 = some (tyX0 k) := by decide +kernel
abbrev cX0_init : ByteArray := prog_2_method_1_code
def yX0_init : MethodName := ⟨RX0, "<init>", "(LHouseClaps$Tokens;LHouseClaps$House;LHouseClaps$Evening;)V"⟩
abbrev cX0_readCues : ByteArray := prog_2_method_2_code
def yX0_readCues : MethodName := ⟨RX0, "readCues", "()V"⟩
abbrev cX0_readCue : ByteArray := prog_2_method_3_code
def yX0_readCue : MethodName := ⟨RX0, "readCue", "()Z"⟩
abbrev cX0_readSeat : ByteArray := prog_2_method_4_code
def yX0_readSeat : MethodName := ⟨RX0, "readSeat", "(I)Z"⟩
def RX1 : String := "HouseClaps$Diary"
def TX1 : u_T := fun k => match k with
  | 0 => ("HouseClaps$Diary", "evening", "LHouseClaps$Evening;", true)
  | 1 => ("HouseClaps$Diary", "night", "LHouseClaps$Night;", true)
  | 2 => ("HouseClaps$Diary", "claps", "[J", true)
  | 3 => ("HouseClaps$Diary", "stands", "[J", true)
  | 4 => ("HouseClaps$Diary", "heldLow", "[J", true)
  | 5 => ("HouseClaps$Diary", "heldHigh", "[J", true)
  | _ => ("HouseClaps$Diary", "known", "I", false)
def tyX1 : Nat → FieldType := fun k => match k with
  | 0 => .object "HouseClaps$Evening"
  | 1 => .object "HouseClaps$Night"
  | 2 => .array .long
  | 3 => .array .long
  | 4 => .array .long
  | 5 => .array .long
  | _ => .int
abbrev wsX10 : List Cond := u_ws RX1 TX1 7
theorem nmX1 : ∀ a, a < 7 → ∀ b, b < 7 → a ≠ b → (TX1 a).2.1 ≠ (TX1 b).2.1 := by decide +kernel
theorem tyX1_ok : ∀ k, k < 7 → parseFieldDescriptor (TX1 k).2.2.1 = some (tyX1 k) := by decide +kernel
abbrev cX1_init : ByteArray := prog_3_method_1_code
def yX1_init : MethodName := ⟨RX1, "<init>", "(LHouseClaps$Evening;)V"⟩
abbrev cX1_forget : ByteArray := prog_3_method_2_code
def yX1_forget : MethodName := ⟨RX1, "forget", "()V"⟩
abbrev cX1_reach : ByteArray := prog_3_method_3_code
def yX1_reach : MethodName := ⟨RX1, "reach", "(I)I"⟩
abbrev cX1_keep : ByteArray := prog_3_method_4_code
def yX1_keep : MethodName := ⟨RX1, "keep", "()V"⟩
abbrev cX1_isUp : ByteArray := prog_3_method_5_code
def yX1_isUp : MethodName := ⟨RX1, "isUp", "(I)Z"⟩
abbrev cX1_height : ByteArray := prog_3_method_6_code
def yX1_height : MethodName := ⟨RX1, "height", "()I"⟩
abbrev cX1_likeBehind : ByteArray := prog_3_method_7_code
def yX1_likeBehind : MethodName := ⟨RX1, "likeBehind", "(I)I"⟩
abbrev cX1_areAlike : ByteArray := prog_3_method_8_code
def yX1_areAlike : MethodName := ⟨RX1, "areAlike", "(II)Z"⟩
def RX2 : String := "HouseClaps$Evening"
def TX2 : u_T := fun k => match k with
  | 0 => ("HouseClaps$Evening", "house", "LHouseClaps$House;", true)
  | 1 => ("HouseClaps$Evening", "cueMoment", "[I", true)
  | 2 => ("HouseClaps$Evening", "cueDeed", "[I", true)
  | 3 => ("HouseClaps$Evening", "cueSeat", "[I", true)
  | 4 => ("HouseClaps$Evening", "cueCount", "I", false)
  | 5 => ("HouseClaps$Evening", "paid", "J", false)
  | _ => ("HouseClaps$Evening", "hissing", "J", false)
def tyX2 : Nat → FieldType := fun k => match k with
  | 0 => .object "HouseClaps$House"
  | 1 => .array .int
  | 2 => .array .int
  | 3 => .array .int
  | 4 => .int
  | 5 => .long
  | _ => .long
abbrev wsX20 : List Cond := u_ws RX2 TX2 7
theorem nmX2 : ∀ a, a < 7 → ∀ b, b < 7 → a ≠ b → (TX2 a).2.1 ≠ (TX2 b).2.1 := by decide +kernel
theorem tyX2_ok : ∀ k, k < 7 → parseFieldDescriptor (TX2 k).2.2.1 = some (tyX2 k) := by decide +kernel
abbrev cX2_init : ByteArray := prog_4_method_1_code
def yX2_init : MethodName := ⟨RX2, "<init>", "()V"⟩
abbrev cX2_clear : ByteArray := prog_4_method_2_code
def yX2_clear : MethodName := ⟨RX2, "clear", "()V"⟩
abbrev cX2_takeAll : ByteArray := prog_4_method_3_code
def yX2_takeAll : MethodName := ⟨RX2, "takeAll", "(LHouseClaps$Evening;)V"⟩
abbrev cX2_takeCues : ByteArray := prog_4_method_4_code
def yX2_takeCues : MethodName := ⟨RX2, "takeCues", "(LHouseClaps$Evening;)V"⟩
abbrev cX2_lastEvent : ByteArray := prog_4_method_5_code
def yX2_lastEvent : MethodName := ⟨RX2, "lastEvent", "()I"⟩
abbrev cX2_againFrom : ByteArray := prog_4_method_6_code
def yX2_againFrom : MethodName := ⟨RX2, "againFrom", "()I"⟩
abbrev cX2_isSomebodyPaid : ByteArray := prog_4_method_7_code
def yX2_isSomebodyPaid : MethodName := ⟨RX2, "isSomebodyPaid", "()Z"⟩
def RX3 : String := "HouseClaps$House"
def TX3 : u_T := fun k => match k with
  | 0 => ("HouseClaps$House", "rows", "I", false)
  | 1 => ("HouseClaps$House", "columns", "I", false)
  | 2 => ("HouseClaps$House", "carry", "I", false)
  | 3 => ("HouseClaps$House", "paidUntil", "I", false)
  | 4 => ("HouseClaps$House", "rowByRow", "Z", false)
  | 5 => ("HouseClaps$House", "seats", "J", false)
  | 6 => ("HouseClaps$House", "kinds", "[I", true)
  | 7 => ("HouseClaps$House", "ofKind", "[J", true)
  | 8 => ("HouseClaps$House", "price", "[I", true)
  | 9 => ("HouseClaps$House", "leaves", "[I", true)
  | 10 => ("HouseClaps$House", "told", "[I", true)
  | 11 => ("HouseClaps$House", "ones", "[I", true)
  | _ => ("HouseClaps$House", "areas", "[J", true)
def tyX3 : Nat → FieldType := fun k => match k with
  | 0 => .int
  | 1 => .int
  | 2 => .int
  | 3 => .int
  | 4 => .boolean
  | 5 => .long
  | 6 => .array .int
  | 7 => .array .long
  | 8 => .array .int
  | 9 => .array .int
  | 10 => .array .int
  | 11 => .array .int
  | _ => .array .long
abbrev wsX30 : List Cond := u_ws RX3 TX3 13
theorem nmX3 : ∀ a, a < 13 → ∀ b, b < 13 → a ≠ b → (TX3 a).2.1 ≠ (TX3 b).2.1 := by decide +kernel
theorem tyX3_ok : ∀ k, k < 13 → parseFieldDescriptor (TX3 k).2.2.1 = some (tyX3 k) := by decide +kernel
abbrev cX3_init : ByteArray := prog_5_method_1_code
def yX3_init : MethodName := ⟨RX3, "<init>", "()V"⟩
abbrev cX3_clear : ByteArray := prog_5_method_2_code
def yX3_clear : MethodName := ⟨RX3, "clear", "()V"⟩
abbrev cX3_takeAll : ByteArray := prog_5_method_3_code
def yX3_takeAll : MethodName := ⟨RX3, "takeAll", "(LHouseClaps$House;)V"⟩
abbrev cX3_cells : ByteArray := prog_5_method_4_code
def yX3_cells : MethodName := ⟨RX3, "cells", "()I"⟩
abbrev cX3_isSeat : ByteArray := prog_5_method_5_code
def yX3_isSeat : MethodName := ⟨RX3, "isSeat", "(I)Z"⟩
abbrev cX3_rowOf : ByteArray := prog_5_method_6_code
def yX3_rowOf : MethodName := ⟨RX3, "rowOf", "(I)I"⟩
abbrev cX3_priceOf : ByteArray := prog_5_method_7_code
def yX3_priceOf : MethodName := ⟨RX3, "priceOf", "(I)I"⟩
abbrev cX3_leavesOf : ByteArray := prog_5_method_8_code
def yX3_leavesOf : MethodName := ⟨RX3, "leavesOf", "(I)I"⟩
abbrev cX3_rowSet : ByteArray := prog_5_method_9_code
def yX3_rowSet : MethodName := ⟨RX3, "rowSet", "(I)J"⟩
abbrev cX3_lastLeaves : ByteArray := prog_5_method_10_code
def yX3_lastLeaves : MethodName := ⟨RX3, "lastLeaves", "()I"⟩
abbrev cX3_exchangeKinds : ByteArray := prog_5_method_11_code
def yX3_exchangeKinds : MethodName := ⟨RX3, "exchangeKinds", "(II)V"⟩
abbrev cX3_setKind : ByteArray := prog_5_method_12_code
def yX3_setKind : MethodName := ⟨RX3, "setKind", "(II)V"⟩
abbrev cX3_survey : ByteArray := prog_5_method_13_code
def yX3_survey : MethodName := ⟨RX3, "survey", "()V"⟩
abbrev cX3_surveyAreas : ByteArray := prog_5_method_14_code
def yX3_surveyAreas : MethodName := ⟨RX3, "surveyAreas", "(I)V"⟩
abbrev cX3_span : ByteArray := prog_5_method_15_code
def yX3_span : MethodName := ⟨RX3, "span", "(III)J"⟩
def RX4 : String := "HouseClaps$HouseText"
def TX4 : u_T := fun k => match k with
  | 0 => ("HouseClaps$HouseText", "tokens", "LHouseClaps$Tokens;", true)
  | 1 => ("HouseClaps$HouseText", "house", "LHouseClaps$House;", true)
  | 2 => ("HouseClaps$HouseText", "ones", "I", false)
  | 3 => ("HouseClaps$HouseText", "pricesTold", "I", false)
  | 4 => ("HouseClaps$HouseText", "carryTold", "Z", false)
  | 5 => ("HouseClaps$HouseText", "paidTold", "Z", false)
  | _ => ("HouseClaps$HouseText", "compared", "I", false)
def tyX4 : Nat → FieldType := fun k => match k with
  | 0 => .object "HouseClaps$Tokens"
  | 1 => .object "HouseClaps$House"
  | 2 => .int
  | 3 => .int
  | 4 => .boolean
  | 5 => .boolean
  | _ => .int
abbrev wsX40 : List Cond := u_ws RX4 TX4 7
theorem nmX4 : ∀ a, a < 7 → ∀ b, b < 7 → a ≠ b → (TX4 a).2.1 ≠ (TX4 b).2.1 := by decide +kernel
theorem tyX4_ok : ∀ k, k < 7 → parseFieldDescriptor (TX4 k).2.2.1 = some (tyX4 k) := by decide +kernel
abbrev cX4_init : ByteArray := prog_6_method_1_code
def yX4_init : MethodName := ⟨RX4, "<init>", "(LHouseClaps$Tokens;LHouseClaps$House;)V"⟩
abbrev cX4_open : ByteArray := prog_6_method_2_code
def yX4_open : MethodName := ⟨RX4, "open", "()V"⟩
abbrev cX4_readLine : ByteArray := prog_6_method_3_code
def yX4_readLine : MethodName := ⟨RX4, "readLine", "()Z"⟩
abbrev cX4_readRow : ByteArray := prog_6_method_4_code
def yX4_readRow : MethodName := ⟨RX4, "readRow", "()Z"⟩
abbrev cX4_isKind : ByteArray := prog_6_method_5_code
def yX4_isKind : MethodName := ⟨RX4, "isKind", "(I)Z"⟩
abbrev cX4_readLaw : ByteArray := prog_6_method_6_code
def yX4_readLaw : MethodName := ⟨RX4, "readLaw", "(I)Z"⟩
abbrev cX4_readJoined : ByteArray := prog_6_method_7_code
def yX4_readJoined : MethodName := ⟨RX4, "readJoined", "(II)Z"⟩
abbrev cX4_readOne : ByteArray := prog_6_method_8_code
def yX4_readOne : MethodName := ⟨RX4, "readOne", "(III)Z"⟩
abbrev cX4_readCompare : ByteArray := prog_6_method_9_code
def yX4_readCompare : MethodName := ⟨RX4, "readCompare", "(Z)Z"⟩
abbrev cX4_readPrice : ByteArray := prog_6_method_10_code
def yX4_readPrice : MethodName := ⟨RX4, "readPrice", "()Z"⟩
abbrev cX4_readLeaves : ByteArray := prog_6_method_11_code
def yX4_readLeaves : MethodName := ⟨RX4, "readLeaves", "()Z"⟩
abbrev cX4_readCarry : ByteArray := prog_6_method_12_code
def yX4_readCarry : MethodName := ⟨RX4, "readCarry", "()Z"⟩
abbrev cX4_readPaid : ByteArray := prog_6_method_13_code
def yX4_readPaid : MethodName := ⟨RX4, "readPaid", "()Z"⟩
abbrev cX4_readRowByRow : ByteArray := prog_6_method_14_code
def yX4_readRowByRow : MethodName := ⟨RX4, "readRowByRow", "()Z"⟩
def RX5 : String := "HouseClaps$Night"
def TX5 : u_T := fun k => match k with
  | 0 => ("HouseClaps$Night", "evening", "LHouseClaps$Evening;", true)
  | 1 => ("HouseClaps$Night", "house", "LHouseClaps$House;", true)
  | 2 => ("HouseClaps$Night", "moment", "I", false)
  | 3 => ("HouseClaps$Night", "nextCue", "I", false)
  | 4 => ("HouseClaps$Night", "lastEvent", "I", false)
  | 5 => ("HouseClaps$Night", "paid", "J", false)
  | 6 => ("HouseClaps$Night", "hissing", "J", false)
  | 7 => ("HouseClaps$Night", "left", "J", false)
  | 8 => ("HouseClaps$Night", "claps", "J", false)
  | 9 => ("HouseClaps$Night", "stands", "J", false)
  | 10 => ("HouseClaps$Night", "heldLow", "J", false)
  | 11 => ("HouseClaps$Night", "heldHigh", "J", false)
  | _ => ("HouseClaps$Night", "calm", "Z", false)
def tyX5 : Nat → FieldType := fun k => match k with
  | 0 => .object "HouseClaps$Evening"
  | 1 => .object "HouseClaps$House"
  | 2 => .int
  | 3 => .int
  | 4 => .int
  | 5 => .long
  | 6 => .long
  | 7 => .long
  | 8 => .long
  | 9 => .long
  | 10 => .long
  | 11 => .long
  | _ => .boolean
abbrev wsX50 : List Cond := u_ws RX5 TX5 13
theorem nmX5 : ∀ a, a < 13 → ∀ b, b < 13 → a ≠ b → (TX5 a).2.1 ≠ (TX5 b).2.1 := by decide +kernel
theorem tyX5_ok : ∀ k, k < 13 → parseFieldDescriptor (TX5 k).2.2.1 = some (tyX5 k) := by decide +kernel
abbrev cX5_init : ByteArray := prog_7_method_1_code
def yX5_init : MethodName := ⟨RX5, "<init>", "(LHouseClaps$Evening;)V"⟩
abbrev cX5_beAs : ByteArray := prog_7_method_2_code
def yX5_beAs : MethodName := ⟨RX5, "beAs", "(LHouseClaps$Diary;I)V"⟩
abbrev cX5_doesHold : ByteArray := prog_7_method_3_code
def yX5_doesHold : MethodName := ⟨RX5, "doesHold", "(II)Z"⟩
abbrev cX5_begin : ByteArray := prog_7_method_4_code
def yX5_begin : MethodName := ⟨RX5, "begin", "(JJ)V"⟩
abbrev cX5_goTo : ByteArray := prog_7_method_5_code
def yX5_goTo : MethodName := ⟨RX5, "goTo", "(I)V"⟩
abbrev cX5_heightOf : ByteArray := prog_7_method_6_code
def yX5_heightOf : MethodName := ⟨RX5, "heightOf", "(JJI)I"⟩
abbrev cX5_step : ByteArray := prog_7_method_7_code
def yX5_step : MethodName := ⟨RX5, "step", "()V"⟩
abbrev cX5_doCues : ByteArray := prog_7_method_8_code
def yX5_doCues : MethodName := ⟨RX5, "doCues", "()Z"⟩
abbrev cX5_seeRowsOff : ByteArray := prog_7_method_9_code
def yX5_seeRowsOff : MethodName := ⟨RX5, "seeRowsOff", "()V"⟩
abbrev cX5_standing : ByteArray := prog_7_method_10_code
def yX5_standing : MethodName := ⟨RX5, "standing", "()J"⟩
abbrev cX5_move : ByteArray := prog_7_method_11_code
def yX5_move : MethodName := ⟨RX5, "move", "(JJJ)V"⟩
abbrev cX5_hold : ByteArray := prog_7_method_12_code
def yX5_hold : MethodName := ⟨RX5, "hold", "(J)V"⟩
abbrev cX5_joined : ByteArray := prog_7_method_13_code
def yX5_joined : MethodName := ⟨RX5, "joined", "(IIJI)J"⟩
abbrev cX5_holding : ByteArray := prog_7_method_14_code
def yX5_holding : MethodName := ⟨RX5, "holding", "(IJI)J"⟩
abbrev cX5_levelWithin : ByteArray := prog_7_method_15_code
def yX5_levelWithin : MethodName := ⟨RX5, "levelWithin", "(II)J"⟩
abbrev cX5_heldWithin : ByteArray := prog_7_method_16_code
def yX5_heldWithin : MethodName := ⟨RX5, "heldWithin", "(II)J"⟩
def RX6 : String := "HouseClaps$Tape"
def TX6 : u_T := fun k => match k with
  | 0 => ("HouseClaps$Tape", "bytes", "[I", true)
  | _ => ("HouseClaps$Tape", "length", "I", false)
def tyX6 : Nat → FieldType := fun k => match k with
  | 0 => .array .int
  | _ => .int
abbrev wsX60 : List Cond := u_ws RX6 TX6 2
theorem nmX6 : ∀ a, a < 2 → ∀ b, b < 2 → a ≠ b → (TX6 a).2.1 ≠ (TX6 b).2.1 := by decide +kernel
theorem tyX6_ok : ∀ k, k < 2 → parseFieldDescriptor (TX6 k).2.2.1 = some (tyX6 k) := by decide +kernel
abbrev cX6_init : ByteArray := prog_8_method_1_code
def yX6_init : MethodName := ⟨RX6, "<init>", "()V"⟩
abbrev cX6_put : ByteArray := prog_8_method_2_code
def yX6_put : MethodName := ⟨RX6, "put", "(I)V"⟩
abbrev cX6_take : ByteArray := prog_8_method_3_code
def yX6_take : MethodName := ⟨RX6, "take", "()I"⟩
def RX7 : String := "HouseClaps$Tokens"
def TX7 : u_T := fun k => match k with
  | 0 => ("HouseClaps$Tokens", "bytes", "[I", true)
  | 1 => ("HouseClaps$Tokens", "length", "I", false)
  | 2 => ("HouseClaps$Tokens", "edge", "I", false)
  | 3 => ("HouseClaps$Tokens", "kind", "I", false)
  | 4 => ("HouseClaps$Tokens", "place", "I", false)
  | 5 => ("HouseClaps$Tokens", "stop", "I", false)
  | 6 => ("HouseClaps$Tokens", "value", "I", false)
  | 7 => ("HouseClaps$Tokens", "taken", "I", false)
  | _ => ("HouseClaps$Tokens", "fault", "I", false)
def tyX7 : Nat → FieldType := fun k => match k with
  | 0 => .array .int
  | 1 => .int
  | 2 => .int
  | 3 => .int
  | 4 => .int
  | 5 => .int
  | 6 => .int
  | 7 => .int
  | _ => .int
abbrev wsX70 : List Cond := u_ws RX7 TX7 9
theorem nmX7 : ∀ a, a < 9 → ∀ b, b < 9 → a ≠ b → (TX7 a).2.1 ≠ (TX7 b).2.1 := by decide +kernel
theorem tyX7_ok : ∀ k, k < 9 → parseFieldDescriptor (TX7 k).2.2.1 = some (tyX7 k) := by decide +kernel
abbrev cX7_init : ByteArray := prog_9_method_1_code
def yX7_init : MethodName := ⟨RX7, "<init>", "(LHouseClaps$Tape;)V"⟩
abbrev cX7_open : ByteArray := prog_9_method_2_code
def yX7_open : MethodName := ⟨RX7, "open", "(II)V"⟩
abbrev cX7_read : ByteArray := prog_9_method_3_code
def yX7_read : MethodName := ⟨RX7, "read", "()V"⟩
abbrev cX7_size : ByteArray := prog_9_method_4_code
def yX7_size : MethodName := ⟨RX7, "size", "()I"⟩
abbrev cX7_sign : ByteArray := prog_9_method_5_code
def yX7_sign : MethodName := ⟨RX7, "sign", "(I)I"⟩
abbrev cX7_among : ByteArray := prog_9_method_6_code
def yX7_among : MethodName := ⟨RX7, "among", "(Ljava/lang/String;)I"⟩
abbrev cX7_isSameWord : ByteArray := prog_9_method_7_code
def yX7_isSameWord : MethodName := ⟨RX7, "isSameWord", "(Ljava/lang/String;I)Z"⟩
abbrev cX7_fail : ByteArray := prog_9_method_8_code
def yX7_fail : MethodName := ⟨RX7, "fail", "(I)Z"⟩
abbrev cX7_isNumberWithin : ByteArray := prog_9_method_9_code
def yX7_isNumberWithin : MethodName := ⟨RX7, "isNumberWithin", "(II)Z"⟩
abbrev cX7_takeNumber : ByteArray := prog_9_method_10_code
def yX7_takeNumber : MethodName := ⟨RX7, "takeNumber", "(II)Z"⟩
abbrev cX7_pass : ByteArray := prog_9_method_11_code
def yX7_pass : MethodName := ⟨RX7, "pass", "(I)Z"⟩
def RX8 : String := "HouseClaps$Trials"
def TX8 : u_T := fun k => match k with
  | 0 => ("HouseClaps$Trials", "evening", "LHouseClaps$Evening;", true)
  | 1 => ("HouseClaps$Trials", "bytes", "[I", true)
  | 2 => ("HouseClaps$Trials", "night", "LHouseClaps$Night;", true)
  | 3 => ("HouseClaps$Trials", "other", "LHouseClaps$Night;", true)
  | 4 => ("HouseClaps$Trials", "heights", "[I", true)
  | 5 => ("HouseClaps$Trials", "found", "[I", true)
  | 6 => ("HouseClaps$Trials", "adds", "[I", true)
  | 7 => ("HouseClaps$Trials", "hands", "I", false)
  | 8 => ("HouseClaps$Trials", "bought", "I", false)
  | 9 => ("HouseClaps$Trials", "secondSure", "I", false)
  | 10 => ("HouseClaps$Trials", "firstSeat", "I", false)
  | 11 => ("HouseClaps$Trials", "secondSeat", "I", false)
  | 12 => ("HouseClaps$Trials", "beganFirst", "I", false)
  | 13 => ("HouseClaps$Trials", "beganSecond", "I", false)
  | 14 => ("HouseClaps$Trials", "sketched", "J", false)
  | 15 => ("HouseClaps$Trials", "sketchClaps", "J", false)
  | _ => ("HouseClaps$Trials", "sketchStands", "J", false)
def tyX8 : Nat → FieldType := fun k => match k with
  | 0 => .object "HouseClaps$Evening"
  | 1 => .array .int
  | 2 => .object "HouseClaps$Night"
  | 3 => .object "HouseClaps$Night"
  | 4 => .array .int
  | 5 => .array .int
  | 6 => .array .int
  | 7 => .int
  | 8 => .int
  | 9 => .int
  | 10 => .int
  | 11 => .int
  | 12 => .int
  | 13 => .int
  | 14 => .long
  | 15 => .long
  | _ => .long
abbrev wsX80 : List Cond := u_ws RX8 TX8 17
theorem nmX8 : ∀ a, a < 17 → ∀ b, b < 17 → a ≠ b → (TX8 a).2.1 ≠ (TX8 b).2.1 := by decide +kernel
theorem tyX8_ok : ∀ k, k < 17 → parseFieldDescriptor (TX8 k).2.2.1 = some (tyX8 k) := by decide +kernel
abbrev cX8_init : ByteArray := prog_10_method_1_code
def yX8_init : MethodName := ⟨RX8, "<init>", "(LHouseClaps$Evening;LHouseClaps$Tape;)V"⟩
abbrev cX8_areHands : ByteArray := prog_10_method_2_code
def yX8_areHands : MethodName := ⟨RX8, "areHands", "(I)Z"⟩
abbrev cX8_areUnlikeSeats : ByteArray := prog_10_method_3_code
def yX8_areUnlikeSeats : MethodName := ⟨RX8, "areUnlikeSeats", "(II)Z"⟩
abbrev cX8_seatsOf : ByteArray := prog_10_method_4_code
def yX8_seatsOf : MethodName := ⟨RX8, "seatsOf", "(II)J"⟩
abbrev cX8_priceOfSet : ByteArray := prog_10_method_5_code
def yX8_priceOfSet : MethodName := ⟨RX8, "priceOfSet", "(II)I"⟩
abbrev cX8_cheapestOf : ByteArray := prog_10_method_6_code
def yX8_cheapestOf : MethodName := ⟨RX8, "cheapestOf", "(I)I"⟩
abbrev cX8_hushOf : ByteArray := prog_10_method_7_code
def yX8_hushOf : MethodName := ⟨RX8, "hushOf", "(I)I"⟩
abbrev cX8_coalitionsOf : ByteArray := prog_10_method_8_code
def yX8_coalitionsOf : MethodName := ⟨RX8, "coalitionsOf", "(I)I"⟩
abbrev cX8_hasFoundPart : ByteArray := prog_10_method_9_code
def yX8_hasFoundPart : MethodName := ⟨RX8, "hasFoundPart", "(II)Z"⟩
abbrev cX8_worthOfAll : ByteArray := prog_10_method_10_code
def yX8_worthOfAll : MethodName := ⟨RX8, "worthOfAll", "(I)I"⟩
abbrev cX8_addsOf : ByteArray := prog_10_method_11_code
def yX8_addsOf : MethodName := ⟨RX8, "addsOf", "(II)I"⟩
abbrev cX8_factorial : ByteArray := prog_10_method_12_code
def yX8_factorial : MethodName := ⟨RX8, "factorial", "(I)I"⟩
abbrev cX8_commonDivisor : ByteArray := prog_10_method_13_code
def yX8_commonDivisor : MethodName := ⟨RX8, "commonDivisor", "(II)I"⟩
abbrev cX8_sidesOf : ByteArray := prog_10_method_14_code
def yX8_sidesOf : MethodName := ⟨RX8, "sidesOf", "(II)I"⟩
abbrev cX8_readSketch : ByteArray := prog_10_method_15_code
def yX8_readSketch : MethodName := ⟨RX8, "readSketch", "(I)Z"⟩
abbrev cX8_beganBy : ByteArray := prog_10_method_16_code
def yX8_beganBy : MethodName := ⟨RX8, "beganBy", "(I)I"⟩
abbrev cX8_isAsSketched : ByteArray := prog_10_method_17_code
def yX8_isAsSketched : MethodName := ⟨RX8, "isAsSketched", "()Z"⟩
abbrev cX8_partOf : ByteArray := prog_10_method_18_code
def yX8_partOf : MethodName := ⟨RX8, "partOf", "(JJ)I"⟩
abbrev cX8_firstPairAbove : ByteArray := prog_10_method_19_code
def yX8_firstPairAbove : MethodName := ⟨RX8, "firstPairAbove", "(I)I"⟩
def RX9 : String := "HouseClaps"
def TX9 : u_T := fun k => match k with
  | 0 => ("HouseClaps", "tape", "LHouseClaps$Tape;", true)
  | 1 => ("HouseClaps", "now", "LHouseClaps$Evening;", true)
  | 2 => ("HouseClaps", "draft", "LHouseClaps$Evening;", true)
  | 3 => ("HouseClaps", "kept", "[LHouseClaps$Evening;", true)
  | 4 => ("HouseClaps", "tokens", "LHouseClaps$Tokens;", true)
  | 5 => ("HouseClaps", "houseText", "LHouseClaps$HouseText;", true)
  | 6 => ("HouseClaps", "cueText", "LHouseClaps$CueText;", true)
  | 7 => ("HouseClaps", "diary", "LHouseClaps$Diary;", true)
  | 8 => ("HouseClaps", "trials", "LHouseClaps$Trials;", true)
  | 9 => ("HouseClaps", "fault", "I", false)
  | _ => ("HouseClaps", "arrangedTimes", "I", false)
def tyX9 : Nat → FieldType := fun k => match k with
  | 0 => .object "HouseClaps$Tape"
  | 1 => .object "HouseClaps$Evening"
  | 2 => .object "HouseClaps$Evening"
  | 3 => .array (.object "HouseClaps$Evening")
  | 4 => .object "HouseClaps$Tokens"
  | 5 => .object "HouseClaps$HouseText"
  | 6 => .object "HouseClaps$CueText"
  | 7 => .object "HouseClaps$Diary"
  | 8 => .object "HouseClaps$Trials"
  | 9 => .int
  | _ => .int
abbrev wsX90 : List Cond := u_ws RX9 TX9 11
theorem nmX9 : ∀ a, a < 11 → ∀ b, b < 11 → a ≠ b → (TX9 a).2.1 ≠ (TX9 b).2.1 := by decide +kernel
theorem tyX9_ok : ∀ k, k < 11 → parseFieldDescriptor (TX9 k).2.2.1 = some (tyX9 k) := by decide +kernel
abbrev cX9_init : ByteArray := prog_1_method_1_code
def yX9_init : MethodName := ⟨RX9, "<init>", "()V"⟩
abbrev cX9_feed : ByteArray := prog_1_method_2_code
def yX9_feed : MethodName := ⟨RX9, "feed", "(IIIII)I"⟩
abbrev cX9_end : ByteArray := prog_1_method_3_code
def yX9_end : MethodName := ⟨RX9, "end", "(I)Z"⟩
abbrev cX9_house : ByteArray := prog_1_method_4_code
def yX9_house : MethodName := ⟨RX9, "house", "()I"⟩
abbrev cX9_fault : ByteArray := prog_1_method_5_code
def yX9_fault : MethodName := ⟨RX9, "fault", "()I"⟩
abbrev cX9_seat : ByteArray := prog_1_method_6_code
def yX9_seat : MethodName := ⟨RX9, "seat", "(II)I"⟩
abbrev cX9_law : ByteArray := prog_1_method_7_code
def yX9_law : MethodName := ⟨RX9, "law", "(II)I"⟩
abbrev cX9_pay : ByteArray := prog_1_method_8_code
def yX9_pay : MethodName := ⟨RX9, "pay", "(II)Z"⟩
abbrev cX9_hiss : ByteArray := prog_1_method_9_code
def yX9_hiss : MethodName := ⟨RX9, "hiss", "(II)Z"⟩
abbrev cX9_cues : ByteArray := prog_1_method_10_code
def yX9_cues : MethodName := ⟨RX9, "cues", "()I"⟩
abbrev cX9_cue : ByteArray := prog_1_method_11_code
def yX9_cue : MethodName := ⟨RX9, "cue", "(II)I"⟩
abbrev cX9_sees : ByteArray := prog_1_method_12_code
def yX9_sees : MethodName := ⟨RX9, "sees", "(IIII)I"⟩
abbrev cX9_at : ByteArray := prog_1_method_13_code
def yX9_at : MethodName := ⟨RX9, "at", "(III)I"⟩
abbrev cX9_many : ByteArray := prog_1_method_14_code
def yX9_many : MethodName := ⟨RX9, "many", "(II)I"⟩
abbrev cX9_would : ByteArray := prog_1_method_15_code
def yX9_would : MethodName := ⟨RX9, "would", "(III)I"⟩
abbrev cX9_stands : ByteArray := prog_1_method_16_code
def yX9_stands : MethodName := ⟨RX9, "stands", "(I)I"⟩
abbrev cX9_anyway : ByteArray := prog_1_method_17_code
def yX9_anyway : MethodName := ⟨RX9, "anyway", "(I)I"⟩
abbrev cX9_up : ByteArray := prog_1_method_18_code
def yX9_up : MethodName := ⟨RX9, "up", "()I"⟩
abbrev cX9_calls : ByteArray := prog_1_method_19_code
def yX9_calls : MethodName := ⟨RX9, "calls", "(I)I"⟩
abbrev cX9_again : ByteArray := prog_1_method_20_code
def yX9_again : MethodName := ⟨RX9, "again", "(I)I"⟩
abbrev cX9_carries : ByteArray := prog_1_method_21_code
def yX9_carries : MethodName := ⟨RX9, "carries", "(I)I"⟩
abbrev cX9_cheapest : ByteArray := prog_1_method_22_code
def yX9_cheapest : MethodName := ⟨RX9, "cheapest", "()I"⟩
abbrev cX9_bought : ByteArray := prog_1_method_23_code
def yX9_bought : MethodName := ⟨RX9, "bought", "()I"⟩
abbrev cX9_hush : ByteArray := prog_1_method_24_code
def yX9_hush : MethodName := ⟨RX9, "hush", "()I"⟩
abbrev cX9_coalitions : ByteArray := prog_1_method_25_code
def yX9_coalitions : MethodName := ⟨RX9, "coalitions", "(I)I"⟩
abbrev cX9_worth : ByteArray := prog_1_method_26_code
def yX9_worth : MethodName := ⟨RX9, "worth", "()I"⟩
abbrev cX9_worthOf : ByteArray := prog_1_method_27_code
def yX9_worthOf : MethodName := ⟨RX9, "worthOf", "(II)I"⟩
abbrev cX9_sides : ByteArray := prog_1_method_28_code
def yX9_sides : MethodName := ⟨RX9, "sides", "()I"⟩
abbrev cX9_side : ByteArray := prog_1_method_29_code
def yX9_side : MethodName := ⟨RX9, "side", "(I)I"⟩
abbrev cX9_began : ByteArray := prog_1_method_30_code
def yX9_began : MethodName := ⟨RX9, "began", "(I)I"⟩
abbrev cX9_beganAt : ByteArray := prog_1_method_31_code
def yX9_beganAt : MethodName := ⟨RX9, "beganAt", "(I)I"⟩
abbrev cX9_parts : ByteArray := prog_1_method_32_code
def yX9_parts : MethodName := ⟨RX9, "parts", "(II)I"⟩
abbrev cX9_exchanged : ByteArray := prog_1_method_33_code
def yX9_exchanged : MethodName := ⟨RX9, "exchanged", "()I"⟩
abbrev cX9_exchange : ByteArray := prog_1_method_34_code
def yX9_exchange : MethodName := ⟨RX9, "exchange", "(II)Z"⟩
abbrev cX9_starts : ByteArray := prog_1_method_35_code
def yX9_starts : MethodName := ⟨RX9, "starts", "(I)I"⟩
abbrev cX9_leader : ByteArray := prog_1_method_36_code
def yX9_leader : MethodName := ⟨RX9, "leader", "(I)I"⟩
abbrev cX9_drawn : ByteArray := prog_1_method_37_code
def yX9_drawn : MethodName := ⟨RX9, "drawn", "(II)Z"⟩
abbrev cX9_arrange : ByteArray := prog_1_method_38_code
def yX9_arrange : MethodName := ⟨RX9, "arrange", "()I"⟩
abbrev cX9_arranged : ByteArray := prog_1_method_39_code
def yX9_arranged : MethodName := ⟨RX9, "arranged", "()I"⟩
abbrev cX9_image : ByteArray := prog_1_method_40_code
def yX9_image : MethodName := ⟨RX9, "image", "(I)Z"⟩
abbrev cX9_restore : ByteArray := prog_1_method_41_code
def yX9_restore : MethodName := ⟨RX9, "restore", "(I)Z"⟩
abbrev cX9_count : ByteArray := prog_1_method_42_code
def yX9_count : MethodName := ⟨RX9, "count", "(I)I"⟩
abbrev cX9_isLarge : ByteArray := prog_1_method_43_code
def yX9_isLarge : MethodName := ⟨RX9, "isLarge", "()Z"⟩
abbrev cX9_isMoment : ByteArray := prog_1_method_44_code
def yX9_isMoment : MethodName := ⟨RX9, "isMoment", "(I)Z"⟩
abbrev cX9_bitOf : ByteArray := prog_1_method_45_code
def yX9_bitOf : MethodName := ⟨RX9, "bitOf", "(JI)I"⟩
abbrev cX9_withBit : ByteArray := prog_1_method_46_code
def yX9_withBit : MethodName := ⟨RX9, "withBit", "(JII)J"⟩
abbrev cX9_withoutNth : ByteArray := prog_1_method_47_code
def yX9_withoutNth : MethodName := ⟨RX9, "withoutNth", "(JI)J"⟩
def RX10 : String := "HouseClapsModel"
def TX10 : u_T := fun k => match k with
  | 0 => ("HouseClapsModel", "thrown", "I", false)
  | 1 => ("HouseClapsModel", "tape", "[B", true)
  | 2 => ("HouseClapsModel", "length", "I", false)
  | 3 => ("HouseClapsModel", "size", "I", false)
  | 4 => ("HouseClapsModel", "p", "I", false)
  | 5 => ("HouseClapsModel", "limit", "I", false)
  | 6 => ("HouseClapsModel", "s", "[I", true)
  | 7 => ("HouseClapsModel", "h", "[I", true)
  | 8 => ("HouseClapsModel", "newCues", "[I", true)
  | 9 => ("HouseClapsModel", "token", "I", false)
  | 10 => ("HouseClapsModel", "at", "I", false)
  | 11 => ("HouseClapsModel", "span", "I", false)
  | 12 => ("HouseClapsModel", "number", "I", false)
  | 13 => ("HouseClapsModel", "fault", "I", false)
  | 14 => ("HouseClapsModel", "faultAt", "I", false)
  | 15 => ("HouseClapsModel", "word", "J", false)
  | 16 => ("HouseClapsModel", "seatsPaid", "J", false)
  | 17 => ("HouseClapsModel", "seatsHiss", "J", false)
  | 18 => ("HouseClapsModel", "got", "I", false)
  | 19 => ("HouseClapsModel", "lines", "I", false)
  | 20 => ("HouseClapsModel", "prices", "I", false)
  | 21 => ("HouseClapsModel", "leavings", "I", false)
  | 22 => ("HouseClapsModel", "onces", "I", false)
  | 23 => ("HouseClapsModel", "code", "[I", true)
  | 24 => ("HouseClapsModel", "pile", "[I", true)
  | 25 => ("HouseClapsModel", "held", "[Z", true)
  | 26 => ("HouseClapsModel", "codeMany", "I", false)
  | 27 => ("HouseClapsModel", "pileMany", "I", false)
  | 28 => ("HouseClapsModel", "ones", "I", false)
  | 29 => ("HouseClapsModel", "area", "[J", true)
  | 30 => ("HouseClapsModel", "lays", "Z", false)
  | 31 => ("HouseClapsModel", "coming", "I", false)
  | 32 => ("HouseClapsModel", "claps", "[J", true)
  | 33 => ("HouseClapsModel", "stand", "[J", true)
  | 34 => ("HouseClapsModel", "heldLow", "[J", true)
  | 35 => ("HouseClapsModel", "heldHigh", "[J", true)
  | 36 => ("HouseClapsModel", "paidNow", "J", false)
  | 37 => ("HouseClapsModel", "hissNow", "J", false)
  | 38 => ("HouseClapsModel", "clapping", "J", false)
  | 39 => ("HouseClapsModel", "standing", "J", false)
  | 40 => ("HouseClapsModel", "low", "J", false)
  | 41 => ("HouseClapsModel", "high", "J", false)
  | 42 => ("HouseClapsModel", "gone", "I", false)
  | 43 => ("HouseClapsModel", "cueNext", "I", false)
  | 44 => ("HouseClapsModel", "nightHeight", "I", false)
  | 45 => ("HouseClapsModel", "nightCarries", "Z", false)
  | 46 => ("HouseClapsModel", "asked", "[I", true)
  | 47 => ("HouseClapsModel", "askedMany", "I", false)
  | 48 => ("HouseClapsModel", "bought", "I", false)
  | 49 => ("HouseClapsModel", "carried", "[Z", true)
  | 50 => ("HouseClapsModel", "heights", "[I", true)
  | 51 => ("HouseClapsModel", "worths", "[J", true)
  | 52 => ("HouseClapsModel", "worthMany", "I", false)
  | 53 => ("HouseClapsModel", "allOrders", "J", false)
  | 54 => ("HouseClapsModel", "side", "[I", true)
  | 55 => ("HouseClapsModel", "hasSides", "Z", false)
  | 56 => ("HouseClapsModel", "seenClaps", "J", false)
  | 57 => ("HouseClapsModel", "seenStand", "J", false)
  | 58 => ("HouseClapsModel", "seenAll", "J", false)
  | 59 => ("HouseClapsModel", "beganA", "I", false)
  | 60 => ("HouseClapsModel", "beganB", "I", false)
  | 61 => ("HouseClapsModel", "otherClaps", "[J", true)
  | 62 => ("HouseClapsModel", "otherStand", "[J", true)
  | 63 => ("HouseClapsModel", "arranged", "I", false)
  | 64 => ("HouseClapsModel", "seed", "I", false)
  | 65 => ("HouseClapsModel", "kept", "[I", true)
  | 66 => ("HouseClapsModel", "keptPaid", "[J", true)
  | 67 => ("HouseClapsModel", "keptHiss", "[J", true)
  | _ => ("HouseClapsModel", "isKept", "[Z", true)
def tyX10 : Nat → FieldType := fun k => match k with
  | 0 => .int
  | 1 => .array .byte
  | 2 => .int
  | 3 => .int
  | 4 => .int
  | 5 => .int
  | 6 => .array .int
  | 7 => .array .int
  | 8 => .array .int
  | 9 => .int
  | 10 => .int
  | 11 => .int
  | 12 => .int
  | 13 => .int
  | 14 => .int
  | 15 => .long
  | 16 => .long
  | 17 => .long
  | 18 => .int
  | 19 => .int
  | 20 => .int
  | 21 => .int
  | 22 => .int
  | 23 => .array .int
  | 24 => .array .int
  | 25 => .array .boolean
  | 26 => .int
  | 27 => .int
  | 28 => .int
  | 29 => .array .long
  | 30 => .boolean
  | 31 => .int
  | 32 => .array .long
  | 33 => .array .long
  | 34 => .array .long
  | 35 => .array .long
  | 36 => .long
  | 37 => .long
  | 38 => .long
  | 39 => .long
  | 40 => .long
  | 41 => .long
  | 42 => .int
  | 43 => .int
  | 44 => .int
  | 45 => .boolean
  | 46 => .array .int
  | 47 => .int
  | 48 => .int
  | 49 => .array .boolean
  | 50 => .array .int
  | 51 => .array .long
  | 52 => .int
  | 53 => .long
  | 54 => .array .int
  | 55 => .boolean
  | 56 => .long
  | 57 => .long
  | 58 => .long
  | 59 => .int
  | 60 => .int
  | 61 => .array .long
  | 62 => .array .long
  | 63 => .int
  | 64 => .int
  | 65 => .array .int
  | 66 => .array .long
  | 67 => .array .long
  | _ => .array .boolean
abbrev wsX100 : List Cond := u_ws RX10 TX10 69
theorem nmX10 : ∀ a, a < 69 → ∀ b, b < 69 → a ≠ b → (TX10 a).2.1 ≠ (TX10 b).2.1 := by decide +kernel
theorem tyX10_ok : ∀ k, k < 69 → parseFieldDescriptor (TX10 k).2.2.1 = some (tyX10 k) := by decide +kernel
abbrev cX10_thrown : ByteArray := prog_12_method_1_code
def yX10_thrown : MethodName := ⟨RX10, "thrown", "()I"⟩
abbrev cX10_throwsIf : ByteArray := prog_12_method_2_code
def yX10_throwsIf : MethodName := ⟨RX10, "throwsIf", "(Z)Z"⟩
abbrev cX10_feed : ByteArray := prog_12_method_3_code
def yX10_feed : MethodName := ⟨RX10, "feed", "(IIIII)I"⟩
abbrev cX10_four : ByteArray := prog_12_method_4_code
def yX10_four : MethodName := ⟨RX10, "four", "(I)V"⟩
abbrev cX10_end : ByteArray := prog_12_method_5_code
def yX10_end : MethodName := ⟨RX10, "end", "(I)Z"⟩
abbrev cX10_taken : ByteArray := prog_12_method_6_code
def yX10_taken : MethodName := ⟨RX10, "taken", "(I)V"⟩
abbrev cX10_isIn : ByteArray := prog_12_method_7_code
def yX10_isIn : MethodName := ⟨RX10, "isIn", "(III)Z"⟩
abbrev cX10_has : ByteArray := prog_12_method_8_code
def yX10_has : MethodName := ⟨RX10, "has", "(II)Z"⟩
abbrev cX10_holds : ByteArray := prog_12_method_9_code
def yX10_holds : MethodName := ⟨RX10, "holds", "(JI)Z"⟩
abbrev cX10_bits : ByteArray := prog_12_method_10_code
def yX10_bits : MethodName := ⟨RX10, "bits", "(J)I"⟩
abbrev cX10_octet : ByteArray := prog_12_method_11_code
def yX10_octet : MethodName := ⟨RX10, "octet", "(I)I"⟩
abbrev cX10_init : ByteArray := prog_12_method_12_code
def yX10_init : MethodName := ⟨RX10, "<init>", "()V"⟩
abbrev cX10_plainHouse : ByteArray := prog_12_method_13_code
def yX10_plainHouse : MethodName := ⟨RX10, "plainHouse", "()V"⟩
abbrev cX10_peek : ByteArray := prog_12_method_14_code
def yX10_peek : MethodName := ⟨RX10, "peek", "()I"⟩
abbrev cX10_isSmall : ByteArray := prog_12_method_15_code
def yX10_isSmall : MethodName := ⟨RX10, "isSmall", "(I)Z"⟩
abbrev cX10_isDigit : ByteArray := prog_12_method_16_code
def yX10_isDigit : MethodName := ⟨RX10, "isDigit", "(I)Z"⟩
abbrev cX10_next : ByteArray := prog_12_method_17_code
def yX10_next : MethodName := ⟨RX10, "next", "()V"⟩
abbrev cX10_bad : ByteArray := prog_12_method_18_code
def yX10_bad : MethodName := ⟨RX10, "bad", "(I)Z"⟩
abbrev cX10_isWord : ByteArray := prog_12_method_19_code
def yX10_isWord : MethodName := ⟨RX10, "isWord", "(J)Z"⟩
abbrev cX10_isSign : ByteArray := prog_12_method_20_code
def yX10_isSign : MethodName := ⟨RX10, "isSign", "(I)Z"⟩
abbrev cX10_sign : ByteArray := prog_12_method_21_code
def yX10_sign : MethodName := ⟨RX10, "sign", "(I)Z"⟩
abbrev cX10_takes : ByteArray := prog_12_method_22_code
def yX10_takes : MethodName := ⟨RX10, "takes", "(II)Z"⟩
abbrev cX10_line : ByteArray := prog_12_method_23_code
def yX10_line : MethodName := ⟨RX10, "line", "()Z"⟩
abbrev cX10_once : ByteArray := prog_12_method_24_code
def yX10_once : MethodName := ⟨RX10, "once", "(IIII)Z"⟩
abbrev cX10_takesRow : ByteArray := prog_12_method_25_code
def yX10_takesRow : MethodName := ⟨RX10, "takesRow", "(I)Z"⟩
abbrev cX10_readRow : ByteArray := prog_12_method_26_code
def yX10_readRow : MethodName := ⟨RX10, "readRow", "()Z"⟩
abbrev cX10_readLaw : ByteArray := prog_12_method_27_code
def yX10_readLaw : MethodName := ⟨RX10, "readLaw", "(I)Z"⟩
abbrev cX10_write : ByteArray := prog_12_method_28_code
def yX10_write : MethodName := ⟨RX10, "write", "(I)V"⟩
abbrev cX10_writeDown : ByteArray := prog_12_method_29_code
def yX10_writeDown : MethodName := ⟨RX10, "writeDown", "(I)V"⟩
abbrev cX10_binds : ByteArray := prog_12_method_30_code
def yX10_binds : MethodName := ⟨RX10, "binds", "(I)I"⟩
abbrev cX10_opened : ByteArray := prog_12_method_31_code
def yX10_opened : MethodName := ⟨RX10, "opened", "()I"⟩
abbrev cX10_isOpen : ByteArray := prog_12_method_32_code
def yX10_isOpen : MethodName := ⟨RX10, "isOpen", "()Z"⟩
abbrev cX10_cond : ByteArray := prog_12_method_33_code
def yX10_cond : MethodName := ⟨RX10, "cond", "()Z"⟩
abbrev cX10_atom : ByteArray := prog_12_method_34_code
def yX10_atom : MethodName := ⟨RX10, "atom", "()I"⟩
abbrev cX10_one : ByteArray := prog_12_method_35_code
def yX10_one : MethodName := ⟨RX10, "one", "()Z"⟩
abbrev cX10_asks : ByteArray := prog_12_method_36_code
def yX10_asks : MethodName := ⟨RX10, "asks", "(I)Z"⟩
abbrev cX10_house : ByteArray := prog_12_method_37_code
def yX10_house : MethodName := ⟨RX10, "house", "()I"⟩
abbrev cX10_fault : ByteArray := prog_12_method_38_code
def yX10_fault : MethodName := ⟨RX10, "fault", "()I"⟩
abbrev cX10_isSeat : ByteArray := prog_12_method_39_code
def yX10_isSeat : MethodName := ⟨RX10, "isSeat", "(I)Z"⟩
abbrev cX10_isSeatAt : ByteArray := prog_12_method_40_code
def yX10_isSeatAt : MethodName := ⟨RX10, "isSeatAt", "(II)Z"⟩
abbrev cX10_bitAt : ByteArray := prog_12_method_41_code
def yX10_bitAt : MethodName := ⟨RX10, "bitAt", "(II)J"⟩
abbrev cX10_layOut : ByteArray := prog_12_method_42_code
def yX10_layOut : MethodName := ⟨RX10, "layOut", "()V"⟩
abbrev cX10_seat : ByteArray := prog_12_method_43_code
def yX10_seat : MethodName := ⟨RX10, "seat", "(II)I"⟩
abbrev cX10_price : ByteArray := prog_12_method_44_code
def yX10_price : MethodName := ⟨RX10, "price", "(I)I"⟩
abbrev cX10_law : ByteArray := prog_12_method_45_code
def yX10_law : MethodName := ⟨RX10, "law", "(II)I"⟩
abbrev cX10_pay : ByteArray := prog_12_method_46_code
def yX10_pay : MethodName := ⟨RX10, "pay", "(II)Z"⟩
abbrev cX10_hiss : ByteArray := prog_12_method_47_code
def yX10_hiss : MethodName := ⟨RX10, "hiss", "(II)Z"⟩
abbrev cX10_readCue : ByteArray := prog_12_method_48_code
def yX10_readCue : MethodName := ⟨RX10, "readCue", "()Z"⟩
abbrev cX10_cues : ByteArray := prog_12_method_49_code
def yX10_cues : MethodName := ⟨RX10, "cues", "()I"⟩
abbrev cX10_cue : ByteArray := prog_12_method_50_code
def yX10_cue : MethodName := ⟨RX10, "cue", "(II)I"⟩
abbrev cX10_isLaw : ByteArray := prog_12_method_51_code
def yX10_isLaw : MethodName := ⟨RX10, "isLaw", "(IIJJII)Z"⟩
abbrev cX10_levelOf : ByteArray := prog_12_method_52_code
def yX10_levelOf : MethodName := ⟨RX10, "levelOf", "(I)I"⟩
abbrev cX10_heldOf : ByteArray := prog_12_method_53_code
def yX10_heldOf : MethodName := ⟨RX10, "heldOf", "(I)I"⟩
abbrev cX10_lawLevel : ByteArray := prog_12_method_54_code
def yX10_lawLevel : MethodName := ⟨RX10, "lawLevel", "(IJJII)I"⟩
abbrev cX10_begin : ByteArray := prog_12_method_55_code
def yX10_begin : MethodName := ⟨RX10, "begin", "(JJ)V"⟩
abbrev cX10_moment : ByteArray := prog_12_method_56_code
def yX10_moment : MethodName := ⟨RX10, "moment", "()V"⟩
abbrev cX10_night : ByteArray := prog_12_method_57_code
def yX10_night : MethodName := ⟨RX10, "night", "(I)V"⟩
abbrev cX10_height : ByteArray := prog_12_method_58_code
def yX10_height : MethodName := ⟨RX10, "height", "(JJ)I"⟩
abbrev cX10_isMoment : ByteArray := prog_12_method_59_code
def yX10_isMoment : MethodName := ⟨RX10, "isMoment", "(I)Z"⟩
abbrev cX10_sees : ByteArray := prog_12_method_60_code
def yX10_sees : MethodName := ⟨RX10, "sees", "(IIII)I"⟩
abbrev cX10_at : ByteArray := prog_12_method_61_code
def yX10_at : MethodName := ⟨RX10, "at", "(III)I"⟩
abbrev cX10_many : ByteArray := prog_12_method_62_code
def yX10_many : MethodName := ⟨RX10, "many", "(II)I"⟩
abbrev cX10_would : ByteArray := prog_12_method_63_code
def yX10_would : MethodName := ⟨RX10, "would", "(III)I"⟩
abbrev cX10_stands : ByteArray := prog_12_method_64_code
def yX10_stands : MethodName := ⟨RX10, "stands", "(I)I"⟩
abbrev cX10_anyway : ByteArray := prog_12_method_65_code
def yX10_anyway : MethodName := ⟨RX10, "anyway", "(I)I"⟩
abbrev cX10_isUp : ByteArray := prog_12_method_66_code
def yX10_isUp : MethodName := ⟨RX10, "isUp", "(I)Z"⟩
abbrev cX10_up : ByteArray := prog_12_method_67_code
def yX10_up : MethodName := ⟨RX10, "up", "()I"⟩
abbrev cX10_calls : ByteArray := prog_12_method_68_code
def yX10_calls : MethodName := ⟨RX10, "calls", "(I)I"⟩
abbrev cX10_areLike : ByteArray := prog_12_method_69_code
def yX10_areLike : MethodName := ⟨RX10, "areLike", "(II)Z"⟩
abbrev cX10_again : ByteArray := prog_12_method_70_code
def yX10_again : MethodName := ⟨RX10, "again", "(I)I"⟩
abbrev cX10_carries : ByteArray := prog_12_method_71_code
def yX10_carries : MethodName := ⟨RX10, "carries", "(I)I"⟩
abbrev cX10_takesSeats : ByteArray := prog_12_method_72_code
def yX10_takesSeats : MethodName := ⟨RX10, "takesSeats", "(II)Z"⟩
abbrev cX10_areEight : ByteArray := prog_12_method_73_code
def yX10_areEight : MethodName := ⟨RX10, "areEight", "()Z"⟩
abbrev cX10_bitsOf : ByteArray := prog_12_method_74_code
def yX10_bitsOf : MethodName := ⟨RX10, "bitsOf", "(I)J"⟩
abbrev cX10_cheapest : ByteArray := prog_12_method_75_code
def yX10_cheapest : MethodName := ⟨RX10, "cheapest", "()I"⟩
abbrev cX10_bought : ByteArray := prog_12_method_76_code
def yX10_bought : MethodName := ⟨RX10, "bought", "()I"⟩
abbrev cX10_hush : ByteArray := prog_12_method_77_code
def yX10_hush : MethodName := ⟨RX10, "hush", "()I"⟩
abbrev cX10_coalitions : ByteArray := prog_12_method_78_code
def yX10_coalitions : MethodName := ⟨RX10, "coalitions", "(I)I"⟩
abbrev cX10_orders : ByteArray := prog_12_method_79_code
def yX10_orders : MethodName := ⟨RX10, "orders", "(I)J"⟩
abbrev cX10_worth : ByteArray := prog_12_method_80_code
def yX10_worth : MethodName := ⟨RX10, "worth", "()I"⟩
abbrev cX10_worthOf : ByteArray := prog_12_method_81_code
def yX10_worthOf : MethodName := ⟨RX10, "worthOf", "(II)I"⟩
abbrev cX10_sides : ByteArray := prog_12_method_82_code
def yX10_sides : MethodName := ⟨RX10, "sides", "()I"⟩
abbrev cX10_side : ByteArray := prog_12_method_83_code
def yX10_side : MethodName := ⟨RX10, "side", "(I)I"⟩
abbrev cX10_isSketch : ByteArray := prog_12_method_84_code
def yX10_isSketch : MethodName := ⟨RX10, "isSketch", "(JI)Z"⟩
abbrev cX10_began : ByteArray := prog_12_method_85_code
def yX10_began : MethodName := ⟨RX10, "began", "(I)I"⟩
abbrev cX10_beganAt : ByteArray := prog_12_method_86_code
def yX10_beganAt : MethodName := ⟨RX10, "beganAt", "(I)I"⟩
abbrev cX10_parts : ByteArray := prog_12_method_87_code
def yX10_parts : MethodName := ⟨RX10, "parts", "(II)I"⟩
abbrev cX10_change : ByteArray := prog_12_method_88_code
def yX10_change : MethodName := ⟨RX10, "change", "(II)V"⟩
abbrev cX10_areUnlike : ByteArray := prog_12_method_89_code
def yX10_areUnlike : MethodName := ⟨RX10, "areUnlike", "(II)Z"⟩
abbrev cX10_exchanged : ByteArray := prog_12_method_90_code
def yX10_exchanged : MethodName := ⟨RX10, "exchanged", "()I"⟩
abbrev cX10_exchange : ByteArray := prog_12_method_91_code
def yX10_exchange : MethodName := ⟨RX10, "exchange", "(II)Z"⟩
abbrev cX10_arranges : ByteArray := prog_12_method_92_code
def yX10_arranges : MethodName := ⟨RX10, "arranges", "(I)Z"⟩
abbrev cX10_arrange : ByteArray := prog_12_method_93_code
def yX10_arrange : MethodName := ⟨RX10, "arrange", "()I"⟩
abbrev cX10_arranged : ByteArray := prog_12_method_94_code
def yX10_arranged : MethodName := ⟨RX10, "arranged", "()I"⟩
abbrev cX10_starts : ByteArray := prog_12_method_95_code
def yX10_starts : MethodName := ⟨RX10, "starts", "(I)I"⟩
abbrev cX10_leader : ByteArray := prog_12_method_96_code
def yX10_leader : MethodName := ⟨RX10, "leader", "(I)I"⟩
abbrev cX10_draw : ByteArray := prog_12_method_97_code
def yX10_draw : MethodName := ⟨RX10, "draw", "(I)I"⟩
abbrev cX10_drawn : ByteArray := prog_12_method_98_code
def yX10_drawn : MethodName := ⟨RX10, "drawn", "(II)Z"⟩
abbrev cX10_image : ByteArray := prog_12_method_99_code
def yX10_image : MethodName := ⟨RX10, "image", "(I)Z"⟩
abbrev cX10_restore : ByteArray := prog_12_method_100_code
def yX10_restore : MethodName := ⟨RX10, "restore", "(I)Z"⟩
abbrev cX10_count : ByteArray := prog_12_method_101_code
def yX10_count : MethodName := ⟨RX10, "count", "(I)I"⟩
def RJx145de : String := "java/io/Serializable"
def TJx145de : u_T := fun k => match k with
  | _ => ("", "", "", false)
def tyJx145de : Nat → FieldType := fun k => match k with
  | _ => .int
abbrev wsJx145de0 : List Cond := u_ws RJx145de TJx145de 0
theorem nmJx145de : ∀ a, a < 0 → ∀ b, b < 0 → a ≠ b → (TJx145de a).2.1 ≠ (TJx145de b).2.1 := by decide +kernel
theorem tyJx145de_ok : ∀ k, k < 0 → parseFieldDescriptor (TJx145de k).2.2.1 = some (tyJx145de k) := by decide +kernel
def RJx9f9b0 : String := "java/lang/CharSequence"
def TJx9f9b0 : u_T := fun k => match k with
  | _ => ("", "", "", false)
def tyJx9f9b0 : Nat → FieldType := fun k => match k with
  | _ => .int
abbrev wsJx9f9b00 : List Cond := u_ws RJx9f9b0 TJx9f9b0 0
theorem nmJx9f9b0 : ∀ a, a < 0 → ∀ b, b < 0 → a ≠ b → (TJx9f9b0 a).2.1 ≠ (TJx9f9b0 b).2.1 := by decide +kernel
theorem tyJx9f9b0_ok : ∀ k, k < 0 → parseFieldDescriptor (TJx9f9b0 k).2.2.1 = some (tyJx9f9b0 k) := by decide +kernel
def RJxb160c : String := "java/lang/Comparable"
def TJxb160c : u_T := fun k => match k with
  | _ => ("", "", "", false)
def tyJxb160c : Nat → FieldType := fun k => match k with
  | _ => .int
abbrev wsJxb160c0 : List Cond := u_ws RJxb160c TJxb160c 0
theorem nmJxb160c : ∀ a, a < 0 → ∀ b, b < 0 → a ≠ b → (TJxb160c a).2.1 ≠ (TJxb160c b).2.1 := by decide +kernel
theorem tyJxb160c_ok : ∀ k, k < 0 → parseFieldDescriptor (TJxb160c k).2.2.1 = some (tyJxb160c k) := by decide +kernel
def RJ6 : String := "java/lang/Integer"
def TJ6 : u_T := fun k => match k with
  | _ => ("", "", "", false)
def tyJ6 : Nat → FieldType := fun k => match k with
  | _ => .int
abbrev wsJ60 : List Cond := u_ws RJ6 TJ6 0
theorem nmJ6 : ∀ a, a < 0 → ∀ b, b < 0 → a ≠ b → (TJ6 a).2.1 ≠ (TJ6 b).2.1 := by decide +kernel
theorem tyJ6_ok : ∀ k, k < 0 → parseFieldDescriptor (TJ6 k).2.2.1 = some (tyJ6 k) := by decide +kernel
abbrev cJ6_bitCount_0f7a4 : ByteArray := prog_17_method_49_code
def yJ6_bitCount_0f7a4 : MethodName := ⟨RJ6, "bitCount", "(I)I"⟩
def RJ13 : String := "java/lang/Long"
def TJ13 : u_T := fun k => match k with
  | _ => ("", "", "", false)
def tyJ13 : Nat → FieldType := fun k => match k with
  | _ => .int
abbrev wsJ130 : List Cond := u_ws RJ13 TJ13 0
theorem nmJ13 : ∀ a, a < 0 → ∀ b, b < 0 → a ≠ b → (TJ13 a).2.1 ≠ (TJ13 b).2.1 := by decide +kernel
theorem tyJ13_ok : ∀ k, k < 0 → parseFieldDescriptor (TJ13 k).2.2.1 = some (tyJ13 k) := by decide +kernel
abbrev cJ13_bitCount_95d88 : ByteArray := prog_18_method_50_code
def yJ13_bitCount_95d88 : MethodName := ⟨RJ13, "bitCount", "(J)I"⟩
def RJ9 : String := "java/lang/Math"
def TJ9 : u_T := fun k => match k with
  | _ => ("", "", "", false)
def tyJ9 : Nat → FieldType := fun k => match k with
  | _ => .int
abbrev wsJ90 : List Cond := u_ws RJ9 TJ9 0
theorem nmJ9 : ∀ a, a < 0 → ∀ b, b < 0 → a ≠ b → (TJ9 a).2.1 ≠ (TJ9 b).2.1 := by decide +kernel
theorem tyJ9_ok : ∀ k, k < 0 → parseFieldDescriptor (TJ9 k).2.2.1 = some (tyJ9 k) := by decide +kernel
abbrev cJ9_abs_0f7a4 : ByteArray := prog_19_method_59_code
def yJ9_abs_0f7a4 : MethodName := ⟨RJ9, "abs", "(I)I"⟩
abbrev cJ9_max_7cf53 : ByteArray := prog_19_method_65_code
def yJ9_max_7cf53 : MethodName := ⟨RJ9, "max", "(II)I"⟩
abbrev cJ9_min_7cf53 : ByteArray := prog_19_method_69_code
def yJ9_min_7cf53 : MethodName := ⟨RJ9, "min", "(II)I"⟩
def RJ0 : String := "java/lang/String"
def TJ0 : u_T := fun k => match k with
  | _ => ("", "", "", false)
def tyJ0 : Nat → FieldType := fun k => match k with
  | _ => .int
abbrev wsJ00 : List Cond := u_ws RJ0 TJ0 0
theorem nmJ0 : ∀ a, a < 0 → ∀ b, b < 0 → a ≠ b → (TJ0 a).2.1 ≠ (TJ0 b).2.1 := by decide +kernel
theorem tyJ0_ok : ∀ k, k < 0 → parseFieldDescriptor (TJ0 k).2.2.1 = some (tyJ0 k) := by decide +kernel
abbrev cJ0_length_8abf5 : ByteArray := prog_21_method_54_code
def yJ0_length_8abf5 : MethodName := ⟨RJ0, "length", "()I"⟩
abbrev cJ0_charAt_5068e : ByteArray := prog_21_method_56_code
def yJ0_charAt_5068e : MethodName := ⟨RJ0, "charAt", "(I)C"⟩
abbrev cJ0_coder_7d493 : ByteArray := prog_21_method_152_code
def yJ0_coder_7d493 : MethodName := ⟨RJ0, "coder", "()B"⟩
abbrev cJ0_isLatin1_aae02 : ByteArray := prog_21_method_154_code
def yJ0_isLatin1_aae02 : MethodName := ⟨RJ0, "isLatin1", "()Z"⟩
abbrev cJ0_checkIndex_df160 : ByteArray := prog_21_method_155_code
def yJ0_checkIndex_df160 : MethodName := ⟨RJ0, "checkIndex", "(II)V"⟩
def RJ1 : String := "java/lang/StringLatin1"
def TJ1 : u_T := fun k => match k with
  | _ => ("", "", "", false)
def tyJ1 : Nat → FieldType := fun k => match k with
  | _ => .int
abbrev wsJ10 : List Cond := u_ws RJ1 TJ1 0
theorem nmJ1 : ∀ a, a < 0 → ∀ b, b < 0 → a ≠ b → (TJ1 a).2.1 ≠ (TJ1 b).2.1 := by decide +kernel
theorem tyJ1_ok : ∀ k, k < 0 → parseFieldDescriptor (TJ1 k).2.2.1 = some (tyJ1 k) := by decide +kernel
abbrev cJ1_charAt_3b067 : ByteArray := prog_22_method_2_code
def yJ1_charAt_3b067 : MethodName := ⟨RJ1, "charAt", "([BI)C"⟩
def RJ2 : String := "java/lang/StringUTF16"
def TJ2 : u_T := fun k => match k with
  | _ => ("", "", "", false)
def tyJ2 : Nat → FieldType := fun k => match k with
  | _ => .int
abbrev wsJ20 : List Cond := u_ws RJ2 TJ2 0
theorem nmJ2 : ∀ a, a < 0 → ∀ b, b < 0 → a ≠ b → (TJ2 a).2.1 ≠ (TJ2 b).2.1 := by decide +kernel
theorem tyJ2_ok : ∀ k, k < 0 → parseFieldDescriptor (TJ2 k).2.2.1 = some (tyJ2 k) := by decide +kernel
abbrev cJ2_getChar_3b067 : ByteArray := prog_23_method_5_code
def yJ2_getChar_3b067 : MethodName := ⟨RJ2, "getChar", "([BI)C"⟩
abbrev cJ2_length_9d52b : ByteArray := prog_23_method_6_code
def yJ2_length_9d52b : MethodName := ⟨RJ2, "length", "([B)I"⟩
abbrev cJ2_charAt_3b067 : ByteArray := prog_23_method_83_code
def yJ2_charAt_3b067 : MethodName := ⟨RJ2, "charAt", "([BI)C"⟩
abbrev cJ2_checkIndex_2214a : ByteArray := prog_23_method_91_code
def yJ2_checkIndex_2214a : MethodName := ⟨RJ2, "checkIndex", "(I[B)V"⟩
def RJ10 : String := "java/lang/System"
def TJ10 : u_T := fun k => match k with
  | _ => ("", "", "", false)
def tyJ10 : Nat → FieldType := fun k => match k with
  | _ => .int
abbrev wsJ100 : List Cond := u_ws RJ10 TJ10 0
theorem nmJ10 : ∀ a, a < 0 → ∀ b, b < 0 → a ≠ b → (TJ10 a).2.1 ≠ (TJ10 b).2.1 := by decide +kernel
theorem tyJ10_ok : ∀ k, k < 0 → parseFieldDescriptor (TJ10 k).2.2.1 = some (tyJ10 k) := by decide +kernel
def RJxfd54e : String := "java/lang/constant/Constable"
def TJxfd54e : u_T := fun k => match k with
  | _ => ("", "", "", false)
def tyJxfd54e : Nat → FieldType := fun k => match k with
  | _ => .int
abbrev wsJxfd54e0 : List Cond := u_ws RJxfd54e TJxfd54e 0
theorem nmJxfd54e : ∀ a, a < 0 → ∀ b, b < 0 → a ≠ b → (TJxfd54e a).2.1 ≠ (TJxfd54e b).2.1 := by decide +kernel
theorem tyJxfd54e_ok : ∀ k, k < 0 → parseFieldDescriptor (TJxfd54e k).2.2.1 = some (tyJxfd54e k) := by decide +kernel
def RJx3cf43 : String := "java/lang/constant/ConstantDesc"
def TJx3cf43 : u_T := fun k => match k with
  | _ => ("", "", "", false)
def tyJx3cf43 : Nat → FieldType := fun k => match k with
  | _ => .int
abbrev wsJx3cf430 : List Cond := u_ws RJx3cf43 TJx3cf43 0
theorem nmJx3cf43 : ∀ a, a < 0 → ∀ b, b < 0 → a ≠ b → (TJx3cf43 a).2.1 ≠ (TJx3cf43 b).2.1 := by decide +kernel
theorem tyJx3cf43_ok : ∀ k, k < 0 → parseFieldDescriptor (TJx3cf43 k).2.2.1 = some (tyJx3cf43 k) := by decide +kernel
def RJ7 : String := "java/util/Arrays"
def TJ7 : u_T := fun k => match k with
  | _ => ("", "", "", false)
def tyJ7 : Nat → FieldType := fun k => match k with
  | _ => .int
abbrev wsJ70 : List Cond := u_ws RJ7 TJ7 0
theorem nmJ7 : ∀ a, a < 0 → ∀ b, b < 0 → a ≠ b → (TJ7 a).2.1 ≠ (TJ7 b).2.1 := by decide +kernel
theorem tyJ7_ok : ∀ k, k < 0 → parseFieldDescriptor (TJ7 k).2.2.1 = some (tyJ7 k) := by decide +kernel
abbrev cJ7_fill_d0a16 : ByteArray := prog_28_method_101_code
def yJ7_fill_d0a16 : MethodName := ⟨RJ7, "fill", "([JJ)V"⟩
abbrev cJ7_fill_53178 : ByteArray := prog_28_method_103_code
def yJ7_fill_53178 : MethodName := ⟨RJ7, "fill", "([II)V"⟩
def RJ3 : String := "jdk/internal/util/Preconditions"
def TJ3 : u_T := fun k => match k with
  | _ => ("", "", "", false)
def tyJ3 : Nat → FieldType := fun k => match k with
  | _ => .int
abbrev wsJ30 : List Cond := u_ws RJ3 TJ3 0
theorem nmJ3 : ∀ a, a < 0 → ∀ b, b < 0 → a ≠ b → (TJ3 a).2.1 ≠ (TJ3 b).2.1 := by decide +kernel
theorem tyJ3_ok : ∀ k, k < 0 → parseFieldDescriptor (TJ3 k).2.2.1 = some (tyJ3 k) := by decide +kernel
abbrev cJ3_checkIndex_8e157 : ByteArray := prog_30_method_11_code
def yJ3_checkIndex_8e157 : MethodName := ⟨RJ3, "checkIndex", "(IILjava/util/function/BiFunction;)I"⟩
def RL : String := "HouseClapsLaw"
abbrev cL_seat : ByteArray := method_3_code
def yL_seat : MethodName := ⟨RL, "seat", "(LHouseClaps;II[J)I"⟩
abbrev cL_cue : ByteArray := method_4_code
def yL_cue : MethodName := ⟨RL, "cue", "(LHouseClaps;II[J)I"⟩
abbrev cL_worthOf : ByteArray := method_5_code
def yL_worthOf : MethodName := ⟨RL, "worthOf", "(LHouseClaps;II[J)I"⟩
abbrev cL_law : ByteArray := code
def yL_law : MethodName := ⟨RL, "law", "([I)Z"⟩
abbrev vwCl : List vw_C := [(RX0, TX0, 3), (RX1, TX1, 7), (RX2, TX2, 7), (RX3, TX3, 13), (RX4, TX4, 7), (RX5, TX5, 13), (RX6, TX6, 2), (RX7, TX7, 9), (RX8, TX8, 17), (RX9, TX9, 11), (RX10, TX10, 69)]
end
section
/-- the classes by number: 0 to 10 the objects' classes, 11 the law, then the JDK's -/
def gOwn : List String := [RX0, RX1, RX2, RX3, RX4, RX5, RX6, RX7, RX8, RX9, RX10, RL, RJ6, RJ13, RJ7]
/-- the methods by number: name, code, locals, answer, class, parameters, kind (0 static, 1 of an object, 2 a constructor) -/
abbrev gMT : Type := MethodName × ByteArray × Nat × Option FieldType × Nat × Nat × Nat
def gM : List gMT := [(yL_law, cL_law, 7, (some .boolean), 11, 1, 0),
  (yX0_init, cX0_init, 4, none, 0, 3, 2),
  (yX0_readCues, cX0_readCues, 2, none, 0, 0, 1),
  (yX0_readCue, cX0_readCue, 4, (some .boolean), 0, 0, 1),
  (yX0_readSeat, cX0_readSeat, 4, (some .boolean), 0, 1, 1),
  (yX1_init, cX1_init, 2, none, 1, 1, 2),
  (yX1_forget, cX1_forget, 1, none, 1, 0, 1),
  (yX1_reach, cX1_reach, 3, (some .int), 1, 1, 1),
  (yX1_keep, cX1_keep, 1, none, 1, 0, 1),
  (yX1_isUp, cX1_isUp, 2, (some .boolean), 1, 1, 1),
  (yX1_height, cX1_height, 3, (some .int), 1, 0, 1),
  (yX1_likeBehind, cX1_likeBehind, 5, (some .int), 1, 1, 1),
  (yX1_areAlike, cX1_areAlike, 3, (some .boolean), 1, 2, 1),
  (yX2_init, cX2_init, 1, none, 2, 0, 2),
  (yX2_clear, cX2_clear, 1, none, 2, 0, 1),
  (yX2_takeAll, cX2_takeAll, 2, none, 2, 1, 1),
  (yX2_takeCues, cX2_takeCues, 2, none, 2, 1, 1),
  (yX2_lastEvent, cX2_lastEvent, 2, (some .int), 2, 0, 1),
  (yX2_againFrom, cX2_againFrom, 2, (some .int), 2, 0, 1),
  (yX2_isSomebodyPaid, cX2_isSomebodyPaid, 3, (some .boolean), 2, 0, 1),
  (yX3_init, cX3_init, 1, none, 3, 0, 2),
  (yX3_clear, cX3_clear, 1, none, 3, 0, 1),
  (yX3_takeAll, cX3_takeAll, 2, none, 3, 1, 1),
  (yX3_cells, cX3_cells, 1, (some .int), 3, 0, 1),
  (yX3_isSeat, cX3_isSeat, 2, (some .boolean), 3, 1, 1),
  (yX3_rowOf, cX3_rowOf, 2, (some .int), 3, 1, 1),
  (yX3_priceOf, cX3_priceOf, 2, (some .int), 3, 1, 1),
  (yX3_leavesOf, cX3_leavesOf, 2, (some .int), 3, 1, 1),
  (yX3_rowSet, cX3_rowSet, 2, (some .long), 3, 1, 1),
  (yX3_lastLeaves, cX3_lastLeaves, 3, (some .int), 3, 0, 1),
  (yX3_exchangeKinds, cX3_exchangeKinds, 4, none, 3, 2, 1),
  (yX3_setKind, cX3_setKind, 4, none, 3, 2, 1),
  (yX3_survey, cX3_survey, 2, none, 3, 0, 1),
  (yX3_surveyAreas, cX3_surveyAreas, 12, none, 3, 1, 1),
  (yX3_span, cX3_span, 8, (some .long), 3, 3, 1),
  (yX4_init, cX4_init, 3, none, 4, 2, 2),
  (yX4_open, cX4_open, 1, none, 4, 0, 1),
  (yX4_readLine, cX4_readLine, 2, (some .boolean), 4, 0, 1),
  (yX4_readRow, cX4_readRow, 4, (some .boolean), 4, 0, 1),
  (yX4_isKind, cX4_isKind, 1, (some .boolean), 4, 1, 0),
  (yX4_readLaw, cX4_readLaw, 3, (some .boolean), 4, 1, 1),
  (yX4_readJoined, cX4_readJoined, 5, (some .boolean), 4, 2, 1),
  (yX4_readOne, cX4_readOne, 7, (some .boolean), 4, 3, 1),
  (yX4_readCompare, cX4_readCompare, 2, (some .boolean), 4, 1, 1),
  (yX4_readPrice, cX4_readPrice, 2, (some .boolean), 4, 0, 1),
  (yX4_readLeaves, cX4_readLeaves, 2, (some .boolean), 4, 0, 1),
  (yX4_readCarry, cX4_readCarry, 1, (some .boolean), 4, 0, 1),
  (yX4_readPaid, cX4_readPaid, 1, (some .boolean), 4, 0, 1),
  (yX4_readRowByRow, cX4_readRowByRow, 1, (some .boolean), 4, 0, 1),
  (yX5_init, cX5_init, 2, none, 5, 1, 2),
  (yX5_beAs, cX5_beAs, 3, none, 5, 2, 1),
  (yX5_doesHold, cX5_doesHold, 3, (some .boolean), 5, 2, 1),
  (yX5_begin, cX5_begin, 5, none, 5, 2, 1),
  (yX5_goTo, cX5_goTo, 3, none, 5, 1, 1),
  (yX5_heightOf, cX5_heightOf, 8, (some .int), 5, 3, 1),
  (yX5_step, cX5_step, 11, none, 5, 0, 1),
  (yX5_doCues, cX5_doCues, 4, (some .boolean), 5, 0, 1),
  (yX5_seeRowsOff, cX5_seeRowsOff, 2, none, 5, 0, 1),
  (yX5_standing, cX5_standing, 1, (some .long), 5, 0, 1),
  (yX5_move, cX5_move, 19, none, 5, 3, 1),
  (yX5_hold, cX5_hold, 8, none, 5, 1, 1),
  (yX5_joined, cX5_joined, 12, (some .long), 5, 4, 1),
  (yX5_holding, cX5_holding, 19, (some .long), 5, 3, 1),
  (yX5_levelWithin, cX5_levelWithin, 5, (some .long), 5, 2, 1),
  (yX5_heldWithin, cX5_heldWithin, 5, (some .long), 5, 2, 1),
  (yX6_init, cX6_init, 1, none, 6, 0, 2),
  (yX6_put, cX6_put, 3, none, 6, 1, 1),
  (yX6_take, cX6_take, 2, (some .int), 6, 0, 1),
  (yX7_init, cX7_init, 2, none, 7, 1, 2),
  (yX7_open, cX7_open, 3, none, 7, 2, 1),
  (yX7_read, cX7_read, 5, none, 7, 0, 1),
  (yX7_size, cX7_size, 1, (some .int), 7, 0, 1),
  (yX7_sign, cX7_sign, 2, (some .int), 7, 1, 1),
  (yX7_among, cX7_among, 3, (some .int), 7, 1, 1),
  (yX7_isSameWord, cX7_isSameWord, 4, (some .boolean), 7, 2, 1),
  (yX7_fail, cX7_fail, 2, (some .boolean), 7, 1, 1),
  (yX7_isNumberWithin, cX7_isNumberWithin, 3, (some .boolean), 7, 2, 1),
  (yX7_takeNumber, cX7_takeNumber, 3, (some .boolean), 7, 2, 1),
  (yX7_pass, cX7_pass, 2, (some .boolean), 7, 1, 1),
  (yX8_init, cX8_init, 3, none, 8, 2, 2),
  (yX8_areHands, cX8_areHands, 2, (some .boolean), 8, 1, 1),
  (yX8_areUnlikeSeats, cX8_areUnlikeSeats, 6, (some .boolean), 8, 2, 1),
  (yX8_seatsOf, cX8_seatsOf, 6, (some .long), 8, 2, 1),
  (yX8_priceOfSet, cX8_priceOfSet, 5, (some .int), 8, 2, 1),
  (yX8_cheapestOf, cX8_cheapestOf, 10, (some .int), 8, 1, 1),
  (yX8_hushOf, cX8_hushOf, 8, (some .int), 8, 1, 1),
  (yX8_coalitionsOf, cX8_coalitionsOf, 7, (some .int), 8, 1, 1),
  (yX8_hasFoundPart, cX8_hasFoundPart, 4, (some .boolean), 8, 2, 1),
  (yX8_worthOfAll, cX8_worthOfAll, 4, (some .int), 8, 1, 1),
  (yX8_addsOf, cX8_addsOf, 7, (some .int), 8, 2, 1),
  (yX8_factorial, cX8_factorial, 4, (some .int), 8, 1, 1),
  (yX8_commonDivisor, cX8_commonDivisor, 7, (some .int), 8, 2, 1),
  (yX8_sidesOf, cX8_sidesOf, 12, (some .int), 8, 2, 1),
  (yX8_readSketch, cX8_readSketch, 3, (some .boolean), 8, 1, 1),
  (yX8_beganBy, cX8_beganBy, 5, (some .int), 8, 1, 1),
  (yX8_isAsSketched, cX8_isAsSketched, 1, (some .boolean), 8, 0, 1),
  (yX8_partOf, cX8_partOf, 6, (some .int), 8, 2, 1),
  (yX8_firstPairAbove, cX8_firstPairAbove, 6, (some .int), 8, 1, 1),
  (yX9_init, cX9_init, 1, none, 9, 0, 2),
  (yX9_feed, cX9_feed, 6, (some .int), 9, 5, 1),
  (yX9_end, cX9_end, 2, (some .boolean), 9, 1, 1),
  (yX9_house, cX9_house, 2, (some .int), 9, 0, 1),
  (yX9_fault, cX9_fault, 1, (some .int), 9, 0, 1),
  (yX9_seat, cX9_seat, 3, (some .int), 9, 2, 1),
  (yX9_law, cX9_law, 3, (some .int), 9, 2, 1),
  (yX9_pay, cX9_pay, 3, (some .boolean), 9, 2, 1),
  (yX9_hiss, cX9_hiss, 3, (some .boolean), 9, 2, 1),
  (yX9_cues, cX9_cues, 1, (some .int), 9, 0, 1),
  (yX9_cue, cX9_cue, 3, (some .int), 9, 2, 1),
  (yX9_sees, cX9_sees, 8, (some .int), 9, 4, 1),
  (yX9_at, cX9_at, 5, (some .int), 9, 3, 1),
  (yX9_many, cX9_many, 4, (some .int), 9, 2, 1),
  (yX9_would, cX9_would, 5, (some .int), 9, 3, 1),
  (yX9_stands, cX9_stands, 4, (some .int), 9, 1, 1),
  (yX9_anyway, cX9_anyway, 2, (some .int), 9, 1, 1),
  (yX9_up, cX9_up, 3, (some .int), 9, 0, 1),
  (yX9_calls, cX9_calls, 7, (some .int), 9, 1, 1),
  (yX9_again, cX9_again, 4, (some .int), 9, 1, 1),
  (yX9_carries, cX9_carries, 3, (some .int), 9, 1, 1),
  (yX9_cheapest, cX9_cheapest, 2, (some .int), 9, 0, 1),
  (yX9_bought, cX9_bought, 1, (some .int), 9, 0, 1),
  (yX9_hush, cX9_hush, 2, (some .int), 9, 0, 1),
  (yX9_coalitions, cX9_coalitions, 4, (some .int), 9, 1, 1),
  (yX9_worth, cX9_worth, 2, (some .int), 9, 0, 1),
  (yX9_worthOf, cX9_worthOf, 5, (some .int), 9, 2, 1),
  (yX9_sides, cX9_sides, 4, (some .int), 9, 0, 1),
  (yX9_side, cX9_side, 2, (some .int), 9, 1, 1),
  (yX9_began, cX9_began, 3, (some .int), 9, 1, 1),
  (yX9_beganAt, cX9_beganAt, 2, (some .int), 9, 1, 1),
  (yX9_parts, cX9_parts, 3, (some .int), 9, 2, 1),
  (yX9_exchanged, cX9_exchanged, 2, (some .int), 9, 0, 1),
  (yX9_exchange, cX9_exchange, 3, (some .boolean), 9, 2, 1),
  (yX9_starts, cX9_starts, 2, (some .int), 9, 1, 1),
  (yX9_leader, cX9_leader, 6, (some .int), 9, 1, 1),
  (yX9_drawn, cX9_drawn, 8, (some .boolean), 9, 2, 1),
  (yX9_arrange, cX9_arrange, 4, (some .int), 9, 0, 1),
  (yX9_arranged, cX9_arranged, 1, (some .int), 9, 0, 1),
  (yX9_image, cX9_image, 2, (some .boolean), 9, 1, 1),
  (yX9_restore, cX9_restore, 2, (some .boolean), 9, 1, 1),
  (yX9_count, cX9_count, 2, (some .int), 9, 1, 1),
  (yX9_isLarge, cX9_isLarge, 1, (some .boolean), 9, 0, 1),
  (yX9_isMoment, cX9_isMoment, 1, (some .boolean), 9, 1, 0),
  (yX9_bitOf, cX9_bitOf, 3, (some .int), 9, 2, 0),
  (yX9_withBit, cX9_withBit, 4, (some .long), 9, 3, 0),
  (yX9_withoutNth, cX9_withoutNth, 5, (some .long), 9, 2, 0),
  (yX10_thrown, cX10_thrown, 1, (some .int), 10, 0, 1),
  (yX10_throwsIf, cX10_throwsIf, 2, (some .boolean), 10, 1, 1),
  (yX10_feed, cX10_feed, 6, (some .int), 10, 5, 1),
  (yX10_four, cX10_four, 3, none, 10, 1, 1),
  (yX10_end, cX10_end, 2, (some .boolean), 10, 1, 1),
  (yX10_taken, cX10_taken, 2, none, 10, 1, 1),
  (yX10_isIn, cX10_isIn, 3, (some .boolean), 10, 3, 0),
  (yX10_has, cX10_has, 2, (some .boolean), 10, 2, 0),
  (yX10_holds, cX10_holds, 3, (some .boolean), 10, 2, 0),
  (yX10_bits, cX10_bits, 4, (some .int), 10, 1, 0),
  (yX10_octet, cX10_octet, 2, (some .int), 10, 1, 1),
  (yX10_init, cX10_init, 2, none, 10, 0, 2),
  (yX10_plainHouse, cX10_plainHouse, 2, none, 10, 0, 1),
  (yX10_peek, cX10_peek, 1, (some .int), 10, 0, 1),
  (yX10_isSmall, cX10_isSmall, 1, (some .boolean), 10, 1, 0),
  (yX10_isDigit, cX10_isDigit, 1, (some .boolean), 10, 1, 0),
  (yX10_next, cX10_next, 4, none, 10, 0, 1),
  (yX10_bad, cX10_bad, 2, (some .boolean), 10, 1, 1),
  (yX10_isWord, cX10_isWord, 3, (some .boolean), 10, 1, 1),
  (yX10_isSign, cX10_isSign, 2, (some .boolean), 10, 1, 1),
  (yX10_sign, cX10_sign, 2, (some .boolean), 10, 1, 1),
  (yX10_takes, cX10_takes, 3, (some .boolean), 10, 2, 1),
  (yX10_line, cX10_line, 2, (some .boolean), 10, 0, 1),
  (yX10_once, cX10_once, 5, (some .boolean), 10, 4, 1),
  (yX10_takesRow, cX10_takesRow, 2, (some .boolean), 10, 1, 1),
  (yX10_readRow, cX10_readRow, 5, (some .boolean), 10, 0, 1),
  (yX10_readLaw, cX10_readLaw, 4, (some .boolean), 10, 1, 1),
  (yX10_write, cX10_write, 2, none, 10, 1, 1),
  (yX10_writeDown, cX10_writeDown, 2, none, 10, 1, 1),
  (yX10_binds, cX10_binds, 1, (some .int), 10, 1, 0),
  (yX10_opened, cX10_opened, 3, (some .int), 10, 0, 1),
  (yX10_isOpen, cX10_isOpen, 2, (some .boolean), 10, 0, 1),
  (yX10_cond, cX10_cond, 2, (some .boolean), 10, 0, 1),
  (yX10_atom, cX10_atom, 1, (some .int), 10, 0, 1),
  (yX10_one, cX10_one, 3, (some .boolean), 10, 0, 1),
  (yX10_asks, cX10_asks, 5, (some .boolean), 10, 1, 1),
  (yX10_house, cX10_house, 2, (some .int), 10, 0, 1),
  (yX10_fault, cX10_fault, 1, (some .int), 10, 0, 1),
  (yX10_isSeat, cX10_isSeat, 2, (some .boolean), 10, 1, 1),
  (yX10_isSeatAt, cX10_isSeatAt, 3, (some .boolean), 10, 2, 1),
  (yX10_bitAt, cX10_bitAt, 3, (some .long), 10, 2, 1),
  (yX10_layOut, cX10_layOut, 13, none, 10, 0, 1),
  (yX10_seat, cX10_seat, 3, (some .int), 10, 2, 1),
  (yX10_price, cX10_price, 2, (some .int), 10, 1, 1),
  (yX10_law, cX10_law, 4, (some .int), 10, 2, 1),
  (yX10_pay, cX10_pay, 3, (some .boolean), 10, 2, 1),
  (yX10_hiss, cX10_hiss, 3, (some .boolean), 10, 2, 1),
  (yX10_readCue, cX10_readCue, 4, (some .boolean), 10, 0, 1),
  (yX10_cues, cX10_cues, 2, (some .int), 10, 0, 1),
  (yX10_cue, cX10_cue, 3, (some .int), 10, 2, 1),
  (yX10_isLaw, cX10_isLaw, 16, (some .boolean), 10, 6, 1),
  (yX10_levelOf, cX10_levelOf, 2, (some .int), 10, 1, 1),
  (yX10_heldOf, cX10_heldOf, 2, (some .int), 10, 1, 1),
  (yX10_lawLevel, cX10_lawLevel, 9, (some .int), 10, 5, 1),
  (yX10_begin, cX10_begin, 5, none, 10, 2, 1),
  (yX10_moment, cX10_moment, 23, none, 10, 0, 1),
  (yX10_night, cX10_night, 2, none, 10, 1, 1),
  (yX10_height, cX10_height, 6, (some .int), 10, 2, 1),
  (yX10_isMoment, cX10_isMoment, 1, (some .boolean), 10, 1, 0),
  (yX10_sees, cX10_sees, 5, (some .int), 10, 4, 1),
  (yX10_at, cX10_at, 4, (some .int), 10, 3, 1),
  (yX10_many, cX10_many, 3, (some .int), 10, 2, 1),
  (yX10_would, cX10_would, 5, (some .int), 10, 3, 1),
  (yX10_stands, cX10_stands, 3, (some .int), 10, 1, 1),
  (yX10_anyway, cX10_anyway, 4, (some .int), 10, 1, 1),
  (yX10_isUp, cX10_isUp, 2, (some .boolean), 10, 1, 1),
  (yX10_up, cX10_up, 2, (some .int), 10, 0, 1),
  (yX10_calls, cX10_calls, 4, (some .int), 10, 1, 1),
  (yX10_areLike, cX10_areLike, 3, (some .boolean), 10, 2, 1),
  (yX10_again, cX10_again, 6, (some .int), 10, 1, 1),
  (yX10_carries, cX10_carries, 2, (some .int), 10, 1, 1),
  (yX10_takesSeats, cX10_takesSeats, 6, (some .boolean), 10, 2, 1),
  (yX10_areEight, cX10_areEight, 1, (some .boolean), 10, 0, 1),
  (yX10_bitsOf, cX10_bitsOf, 5, (some .long), 10, 1, 1),
  (yX10_cheapest, cX10_cheapest, 6, (some .int), 10, 0, 1),
  (yX10_bought, cX10_bought, 1, (some .int), 10, 0, 1),
  (yX10_hush, cX10_hush, 3, (some .int), 10, 0, 1),
  (yX10_coalitions, cX10_coalitions, 6, (some .int), 10, 1, 1),
  (yX10_orders, cX10_orders, 4, (some .long), 10, 1, 0),
  (yX10_worth, cX10_worth, 4, (some .int), 10, 0, 1),
  (yX10_worthOf, cX10_worthOf, 9, (some .int), 10, 2, 1),
  (yX10_sides, cX10_sides, 9, (some .int), 10, 0, 1),
  (yX10_side, cX10_side, 2, (some .int), 10, 1, 1),
  (yX10_isSketch, cX10_isSketch, 4, (some .boolean), 10, 2, 1),
  (yX10_began, cX10_began, 12, (some .int), 10, 1, 1),
  (yX10_beganAt, cX10_beganAt, 2, (some .int), 10, 1, 1),
  (yX10_parts, cX10_parts, 4, (some .int), 10, 2, 1),
  (yX10_change, cX10_change, 4, none, 10, 2, 1),
  (yX10_areUnlike, cX10_areUnlike, 3, (some .boolean), 10, 2, 1),
  (yX10_exchanged, cX10_exchanged, 4, (some .int), 10, 0, 1),
  (yX10_exchange, cX10_exchange, 3, (some .boolean), 10, 2, 1),
  (yX10_arranges, cX10_arranges, 5, (some .boolean), 10, 1, 1),
  (yX10_arrange, cX10_arrange, 2, (some .int), 10, 0, 1),
  (yX10_arranged, cX10_arranged, 1, (some .int), 10, 0, 1),
  (yX10_starts, cX10_starts, 2, (some .int), 10, 1, 1),
  (yX10_leader, cX10_leader, 6, (some .int), 10, 1, 1),
  (yX10_draw, cX10_draw, 2, (some .int), 10, 1, 1),
  (yX10_drawn, cX10_drawn, 8, (some .boolean), 10, 2, 1),
  (yX10_image, cX10_image, 3, (some .boolean), 10, 1, 1),
  (yX10_restore, cX10_restore, 3, (some .boolean), 10, 1, 1),
  (yX10_count, cX10_count, 2, (some .int), 10, 1, 1),
  (yL_seat, cL_seat, 5, (some .int), 11, 4, 0),
  (yL_cue, cL_cue, 5, (some .int), 11, 4, 0),
  (yL_worthOf, cL_worthOf, 5, (some .int), 11, 4, 0),
  (yJ6_bitCount_0f7a4, cJ6_bitCount_0f7a4, 1, (some .int), 12, 1, 0),
  (yJ13_bitCount_95d88, cJ13_bitCount_95d88, 2, (some .int), 13, 1, 0),
  (yJ7_fill_d0a16, cJ7_fill_d0a16, 5, none, 14, 2, 0),
  (yJ7_fill_53178, cJ7_fill_53178, 4, none, 14, 2, 0)]
def gC0 : List (Nat × Instr × Nat) := [(0, .new 8, 3), (3, .dup, 1), (4, .invokespecial 21, 3), (7, .astore_n 1, 1), (8, .new 22, 3), (11, .dup, 1), (12, .invokespecial 24, 3), (15, .astore_n 2, 1), (16, .iconst 1, 1), (17, .newarray .long, 2), (19, .astore_n 3, 1), (20, .iconst 0, 1), (21, .istore 4, 2), (23, .iload 4, 2), (25, .aload_n 0, 1), (26, .arraylength, 1), (27, .bipush 6, 2), (29, .isub, 1), (30, .if_icmp .gt 1422, 3), (33, .aload_n 0, 1), (34, .iload 4, 2), (36, .iaload, 1), (37, .bipush 63, 2), (39, .iand, 1), (40, .tableswitch 1406 0 40 #[180, 253, 278, 291, 304, 372, 409, 446, 483, 496, 564, 625, 674, 711, 760, 785, 810, 823, 848, 873, 898, 911, 924, 937, 962, 975, 1043, 1056, 1081, 1106, 1131, 1168, 1181, 1218, 1243, 1268, 1305, 1318, 1331, 1356, 1381], 180), (220, .aload_n 1, 1), (221, .aload_n 0, 1), (222, .iload 4, 2), (224, .iconst 1, 1), (225, .iadd, 1), (226, .iaload, 1), (227, .aload_n 0, 1), (228, .iload 4, 2), (230, .iconst 2, 1), (231, .iadd, 1), (232, .iaload, 1), (233, .aload_n 0, 1), (234, .iload 4, 2), (236, .iconst 3, 1), (237, .iadd, 1), (238, .iaload, 1), (239, .aload_n 0, 1), (240, .iload 4, 2), (242, .iconst 4, 1), (243, .iadd, 1), (244, .iaload, 1), (245, .aload_n 0, 1), (246, .iload 4, 2), (248, .iconst 5, 1), (249, .iadd, 1), (250, .iaload, 1), (251, .invokevirtual 25, 3), (254, .aload_n 2, 1), (255, .aload_n 0, 1), (256, .iload 4, 2), (258, .iconst 1, 1), (259, .iadd, 1), (260, .iaload, 1), (261, .aload_n 0, 1), (262, .iload 4, 2), (264, .iconst 2, 1), (265, .iadd, 1), (266, .iaload, 1), (267, .aload_n 0, 1), (268, .iload 4, 2), (270, .iconst 3, 1), (271, .iadd, 1), (272, .iaload, 1), (273, .aload_n 0, 1), (274, .iload 4, 2), (276, .iconst 4, 1), (277, .iadd, 1), (278, .iaload, 1), (279, .aload_n 0, 1), (280, .iload 4, 2), (282, .iconst 5, 1), (283, .iadd, 1), (284, .iaload, 1), (285, .invokevirtual 29, 3), (288, .if_icmp .eq 1158, 3), (291, .iconst 0, 1), (292, .ireturn, 1), (293, .aload_n 1, 1), (294, .aload_n 0, 1), (295, .iload 4, 2), (297, .iconst 1, 1), (298, .iadd, 1), (299, .iaload, 1), (300, .invokevirtual 30, 3), (303, .aload_n 2, 1), (304, .aload_n 0, 1), (305, .iload 4, 2), (307, .iconst 1, 1), (308, .iadd, 1), (309, .iaload, 1), (310, .invokevirtual 34, 3), (313, .if_icmp .eq 1133, 3), (316, .iconst 0, 1), (317, .ireturn, 1), (318, .aload_n 1, 1), (319, .invokevirtual 35, 3), (322, .aload_n 2, 1), (323, .invokevirtual 39, 3), (326, .if_icmp .eq 1120, 3), (329, .iconst 0, 1), (330, .ireturn, 1), (331, .aload_n 1, 1), (332, .invokevirtual 40, 3), (335, .aload_n 2, 1), (336, .invokevirtual 43, 3), (339, .if_icmp .eq 1107, 3), (342, .iconst 0, 1), (343, .ireturn, 1), (344, .aload_n 1, 1), (345, .aload_n 0, 1), (346, .iload 4, 2), (348, .iconst 1, 1), (349, .iadd, 1), (350, .iaload, 1), (351, .aload_n 0, 1), (352, .iload 4, 2), (354, .iconst 2, 1), (355, .iadd, 1), (356, .iaload, 1), (357, .aload_n 3, 1), (358, .invokestatic 44, 3), (361, .istore 5, 2), (363, .aload_n 2, 1), (364, .aload_n 0, 1), (365, .iload 4, 2), (367, .iconst 1, 1), (368, .iadd, 1), (369, .iaload, 1), (370, .aload_n 0, 1), (371, .iload 4, 2), (373, .iconst 2, 1), (374, .iadd, 1), (375, .iaload, 1), (376, .invokevirtual 49, 3), (379, .istore 6, 2), (381, .aload_n 2, 1), (382, .invokevirtual 50, 3), (385, .iload 5, 2), (387, .if_icmp .eq 5, 3), (390, .iconst 0, 1), (391, .ireturn, 1), (392, .iload 5, 2), (394, .ifCond .ne 15, 3), (397, .aload_n 3, 1), (398, .iconst 0, 1), (399, .laload, 1), (400, .iload 6, 2), (402, .i2l, 1), (403, .lcmp, 1), (404, .ifCond .eq 5, 3), (407, .iconst 0, 1), (408, .ireturn, 1), (409, .goto 1037, 3), (412, .aload_n 1, 1), (413, .aload_n 0, 1), (414, .iload 4, 2), (416, .iconst 1, 1), (417, .iadd, 1), (418, .iaload, 1), (419, .aload_n 0, 1), (420, .iload 4, 2), (422, .iconst 2, 1), (423, .iadd, 1), (424, .iaload, 1), (425, .invokevirtual 53, 3), (428, .aload_n 2, 1), (429, .aload_n 0, 1), (430, .iload 4, 2), (432, .iconst 1, 1), (433, .iadd, 1), (434, .iaload, 1), (435, .aload_n 0, 1), (436, .iload 4, 2), (438, .iconst 2, 1), (439, .iadd, 1), (440, .iaload, 1), (441, .invokevirtual 56, 3), (444, .if_icmp .eq 1002, 3), (447, .iconst 0, 1), (448, .ireturn, 1), (449, .aload_n 1, 1), (450, .aload_n 0, 1), (451, .iload 4, 2), (453, .iconst 1, 1), (454, .iadd, 1), (455, .iaload, 1), (456, .aload_n 0, 1), (457, .iload 4, 2), (459, .iconst 2, 1), (460, .iadd, 1), (461, .iaload, 1), (462, .invokevirtual 57, 3), (465, .aload_n 2, 1), (466, .aload_n 0, 1), (467, .iload 4, 2), (469, .iconst 1, 1), (470, .iadd, 1), (471, .iaload, 1), (472, .aload_n 0, 1), (473, .iload 4, 2), (475, .iconst 2, 1), (476, .iadd, 1), (477, .iaload, 1), (478, .invokevirtual 61, 3), (481, .if_icmp .eq 965, 3), (484, .iconst 0, 1), (485, .ireturn, 1), (486, .aload_n 1, 1), (487, .aload_n 0, 1), (488, .iload 4, 2), (490, .iconst 1, 1), (491, .iadd, 1), (492, .iaload, 1), (493, .aload_n 0, 1), (494, .iload 4, 2), (496, .iconst 2, 1), (497, .iadd, 1), (498, .iaload, 1), (499, .invokevirtual 62, 3), (502, .aload_n 2, 1), (503, .aload_n 0, 1), (504, .iload 4, 2), (506, .iconst 1, 1), (507, .iadd, 1), (508, .iaload, 1), (509, .aload_n 0, 1), (510, .iload 4, 2), (512, .iconst 2, 1), (513, .iadd, 1), (514, .iaload, 1), (515, .invokevirtual 65, 3), (518, .if_icmp .eq 928, 3), (521, .iconst 0, 1), (522, .ireturn, 1), (523, .aload_n 1, 1), (524, .invokevirtual 66, 3), (527, .aload_n 2, 1), (528, .invokevirtual 69, 3), (531, .if_icmp .eq 915, 3), (534, .iconst 0, 1), (535, .ireturn, 1), (536, .aload_n 1, 1), (537, .aload_n 0, 1), (538, .iload 4, 2), (540, .iconst 1, 1), (541, .iadd, 1), (542, .iaload, 1), (543, .aload_n 0, 1), (544, .iload 4, 2), (546, .iconst 2, 1), (547, .iadd, 1), (548, .iaload, 1), (549, .aload_n 3, 1), (550, .invokestatic 70, 3), (553, .istore 5, 2), (555, .aload_n 2, 1), (556, .aload_n 0, 1), (557, .iload 4, 2), (559, .iconst 1, 1), (560, .iadd, 1), (561, .iaload, 1), (562, .aload_n 0, 1), (563, .iload 4, 2), (565, .iconst 2, 1), (566, .iadd, 1), (567, .iaload, 1), (568, .invokevirtual 72, 3), (571, .istore 6, 2), (573, .aload_n 2, 1), (574, .invokevirtual 50, 3), (577, .iload 5, 2), (579, .if_icmp .eq 5, 3), (582, .iconst 0, 1), (583, .ireturn, 1), (584, .iload 5, 2), (586, .ifCond .ne 15, 3), (589, .aload_n 3, 1), (590, .iconst 0, 1), (591, .laload, 1), (592, .iload 6, 2), (594, .i2l, 1), (595, .lcmp, 1), (596, .ifCond .eq 5, 3), (599, .iconst 0, 1), (600, .ireturn, 1), (601, .goto 845, 3), (604, .aload_n 1, 1), (605, .aload_n 0, 1), (606, .iload 4, 2), (608, .iconst 1, 1), (609, .iadd, 1), (610, .iaload, 1), (611, .aload_n 0, 1), (612, .iload 4, 2), (614, .iconst 2, 1), (615, .iadd, 1), (616, .iaload, 1), (617, .aload_n 0, 1), (618, .iload 4, 2), (620, .iconst 3, 1), (621, .iadd, 1), (622, .iaload, 1), (623, .aload_n 0, 1), (624, .iload 4, 2), (626, .iconst 4, 1), (627, .iadd, 1), (628, .iaload, 1), (629, .invokevirtual 73, 3), (632, .aload_n 2, 1), (633, .aload_n 0, 1), (634, .iload 4, 2), (636, .iconst 1, 1), (637, .iadd, 1), (638, .iaload, 1), (639, .aload_n 0, 1), (640, .iload 4, 2), (642, .iconst 2, 1), (643, .iadd, 1), (644, .iaload, 1), (645, .aload_n 0, 1), (646, .iload 4, 2), (648, .iconst 3, 1), (649, .iadd, 1), (650, .iaload, 1), (651, .aload_n 0, 1), (652, .iload 4, 2), (654, .iconst 4, 1), (655, .iadd, 1), (656, .iaload, 1), (657, .invokevirtual 77, 3), (660, .if_icmp .eq 786, 3), (663, .iconst 0, 1), (664, .ireturn, 1), (665, .aload_n 1, 1), (666, .aload_n 0, 1), (667, .iload 4, 2), (669, .iconst 1, 1), (670, .iadd, 1), (671, .iaload, 1), (672, .aload_n 0, 1), (673, .iload 4, 2), (675, .iconst 2, 1), (676, .iadd, 1), (677, .iaload, 1), (678, .aload_n 0, 1), (679, .iload 4, 2), (681, .iconst 3, 1), (682, .iadd, 1), (683, .iaload, 1), (684, .invokevirtual 78, 3), (687, .aload_n 2, 1), (688, .aload_n 0, 1), (689, .iload 4, 2), (691, .iconst 1, 1), (692, .iadd, 1), (693, .iaload, 1), (694, .aload_n 0, 1), (695, .iload 4, 2), (697, .iconst 2, 1), (698, .iadd, 1), (699, .iaload, 1), (700, .aload_n 0, 1), (701, .iload 4, 2), (703, .iconst 3, 1), (704, .iadd, 1), (705, .iaload, 1), (706, .invokevirtual 82, 3), (709, .if_icmp .eq 737, 3), (712, .iconst 0, 1), (713, .ireturn, 1), (714, .aload_n 1, 1), (715, .aload_n 0, 1), (716, .iload 4, 2), (718, .iconst 1, 1), (719, .iadd, 1), (720, .iaload, 1), (721, .aload_n 0, 1), (722, .iload 4, 2), (724, .iconst 2, 1), (725, .iadd, 1), (726, .iaload, 1), (727, .invokevirtual 83, 3), (730, .aload_n 2, 1), (731, .aload_n 0, 1), (732, .iload 4, 2), (734, .iconst 1, 1), (735, .iadd, 1), (736, .iaload, 1), (737, .aload_n 0, 1), (738, .iload 4, 2), (740, .iconst 2, 1), (741, .iadd, 1), (742, .iaload, 1), (743, .invokevirtual 86, 3), (746, .if_icmp .eq 700, 3), (749, .iconst 0, 1), (750, .ireturn, 1), (751, .aload_n 1, 1), (752, .aload_n 0, 1), (753, .iload 4, 2), (755, .iconst 1, 1), (756, .iadd, 1), (757, .iaload, 1), (758, .aload_n 0, 1), (759, .iload 4, 2), (761, .iconst 2, 1), (762, .iadd, 1), (763, .iaload, 1), (764, .aload_n 0, 1), (765, .iload 4, 2), (767, .iconst 3, 1), (768, .iadd, 1), (769, .iaload, 1), (770, .invokevirtual 87, 3), (773, .aload_n 2, 1), (774, .aload_n 0, 1), (775, .iload 4, 2), (777, .iconst 1, 1), (778, .iadd, 1), (779, .iaload, 1), (780, .aload_n 0, 1), (781, .iload 4, 2), (783, .iconst 2, 1), (784, .iadd, 1), (785, .iaload, 1), (786, .aload_n 0, 1), (787, .iload 4, 2), (789, .iconst 3, 1), (790, .iadd, 1), (791, .iaload, 1), (792, .invokevirtual 90, 3), (795, .if_icmp .eq 651, 3), (798, .iconst 0, 1), (799, .ireturn, 1), (800, .aload_n 1, 1), (801, .aload_n 0, 1), (802, .iload 4, 2), (804, .iconst 1, 1), (805, .iadd, 1), (806, .iaload, 1), (807, .invokevirtual 91, 3), (810, .aload_n 2, 1), (811, .aload_n 0, 1), (812, .iload 4, 2), (814, .iconst 1, 1), (815, .iadd, 1), (816, .iaload, 1), (817, .invokevirtual 95, 3), (820, .if_icmp .eq 626, 3), (823, .iconst 0, 1), (824, .ireturn, 1), (825, .aload_n 1, 1), (826, .aload_n 0, 1), (827, .iload 4, 2), (829, .iconst 1, 1), (830, .iadd, 1), (831, .iaload, 1), (832, .invokevirtual 96, 3), (835, .aload_n 2, 1), (836, .aload_n 0, 1), (837, .iload 4, 2), (839, .iconst 1, 1), (840, .iadd, 1), (841, .iaload, 1), (842, .invokevirtual 99, 3), (845, .if_icmp .eq 601, 3), (848, .iconst 0, 1), (849, .ireturn, 1), (850, .aload_n 1, 1), (851, .invokevirtual 100, 3), (854, .aload_n 2, 1), (855, .invokevirtual 103, 3), (858, .if_icmp .eq 588, 3), (861, .iconst 0, 1), (862, .ireturn, 1), (863, .aload_n 1, 1), (864, .aload_n 0, 1), (865, .iload 4, 2), (867, .iconst 1, 1), (868, .iadd, 1), (869, .iaload, 1), (870, .invokevirtual 104, 3), (873, .aload_n 2, 1), (874, .aload_n 0, 1), (875, .iload 4, 2), (877, .iconst 1, 1), (878, .iadd, 1), (879, .iaload, 1), (880, .invokevirtual 107, 3), (883, .if_icmp .eq 563, 3), (886, .iconst 0, 1), (887, .ireturn, 1), (888, .aload_n 1, 1), (889, .aload_n 0, 1), (890, .iload 4, 2), (892, .iconst 1, 1), (893, .iadd, 1), (894, .iaload, 1), (895, .invokevirtual 108, 3), (898, .aload_n 2, 1), (899, .aload_n 0, 1), (900, .iload 4, 2), (902, .iconst 1, 1), (903, .iadd, 1), (904, .iaload, 1), (905, .invokevirtual 111, 3), (908, .if_icmp .eq 538, 3), (911, .iconst 0, 1), (912, .ireturn, 1), (913, .aload_n 1, 1), (914, .aload_n 0, 1), (915, .iload 4, 2), (917, .iconst 1, 1), (918, .iadd, 1), (919, .iaload, 1), (920, .invokevirtual 112, 3), (923, .aload_n 2, 1), (924, .aload_n 0, 1), (925, .iload 4, 2), (927, .iconst 1, 1), (928, .iadd, 1), (929, .iaload, 1), (930, .invokevirtual 115, 3), (933, .if_icmp .eq 513, 3), (936, .iconst 0, 1), (937, .ireturn, 1), (938, .aload_n 1, 1), (939, .invokevirtual 116, 3), (942, .aload_n 2, 1), (943, .invokevirtual 119, 3), (946, .if_icmp .eq 500, 3), (949, .iconst 0, 1), (950, .ireturn, 1), (951, .aload_n 1, 1), (952, .invokevirtual 120, 3), (955, .aload_n 2, 1), (956, .invokevirtual 123, 3), (959, .if_icmp .eq 487, 3), (962, .iconst 0, 1), (963, .ireturn, 1), (964, .aload_n 1, 1), (965, .invokevirtual 124, 3), (968, .aload_n 2, 1), (969, .invokevirtual 127, 3), (972, .if_icmp .eq 474, 3), (975, .iconst 0, 1), (976, .ireturn, 1), (977, .aload_n 1, 1), (978, .aload_n 0, 1), (979, .iload 4, 2), (981, .iconst 1, 1), (982, .iadd, 1), (983, .iaload, 1), (984, .invokevirtual 128, 3), (987, .aload_n 2, 1), (988, .aload_n 0, 1), (989, .iload 4, 2), (991, .iconst 1, 1), (992, .iadd, 1), (993, .iaload, 1), (994, .invokevirtual 131, 3), (997, .if_icmp .eq 449, 3), (1000, .iconst 0, 1), (1001, .ireturn, 1), (1002, .aload_n 1, 1), (1003, .invokevirtual 132, 3), (1006, .aload_n 2, 1), (1007, .invokevirtual 135, 3), (1010, .if_icmp .eq 436, 3), (1013, .iconst 0, 1), (1014, .ireturn, 1), (1015, .aload_n 1, 1), (1016, .aload_n 0, 1), (1017, .iload 4, 2), (1019, .iconst 1, 1), (1020, .iadd, 1), (1021, .iaload, 1), (1022, .aload_n 0, 1), (1023, .iload 4, 2), (1025, .iconst 2, 1), (1026, .iadd, 1), (1027, .iaload, 1), (1028, .aload_n 3, 1), (1029, .invokestatic 136, 3), (1032, .istore 5, 2), (1034, .aload_n 2, 1), (1035, .aload_n 0, 1), (1036, .iload 4, 2), (1038, .iconst 1, 1), (1039, .iadd, 1), (1040, .iaload, 1), (1041, .aload_n 0, 1), (1042, .iload 4, 2), (1044, .iconst 2, 1), (1045, .iadd, 1), (1046, .iaload, 1), (1047, .invokevirtual 138, 3), (1050, .istore 6, 2), (1052, .aload_n 2, 1), (1053, .invokevirtual 50, 3), (1056, .iload 5, 2), (1058, .if_icmp .eq 5, 3), (1061, .iconst 0, 1), (1062, .ireturn, 1), (1063, .iload 5, 2), (1065, .ifCond .ne 15, 3), (1068, .aload_n 3, 1), (1069, .iconst 0, 1), (1070, .laload, 1), (1071, .iload 6, 2), (1073, .i2l, 1), (1074, .lcmp, 1), (1075, .ifCond .eq 5, 3), (1078, .iconst 0, 1), (1079, .ireturn, 1), (1080, .goto 366, 3), (1083, .aload_n 1, 1), (1084, .invokevirtual 139, 3), (1087, .aload_n 2, 1), (1088, .invokevirtual 142, 3), (1091, .if_icmp .eq 355, 3), (1094, .iconst 0, 1), (1095, .ireturn, 1), (1096, .aload_n 1, 1), (1097, .aload_n 0, 1), (1098, .iload 4, 2), (1100, .iconst 1, 1), (1101, .iadd, 1), (1102, .iaload, 1), (1103, .invokevirtual 143, 3), (1106, .aload_n 2, 1), (1107, .aload_n 0, 1), (1108, .iload 4, 2), (1110, .iconst 1, 1), (1111, .iadd, 1), (1112, .iaload, 1), (1113, .invokevirtual 146, 3), (1116, .if_icmp .eq 330, 3), (1119, .iconst 0, 1), (1120, .ireturn, 1), (1121, .aload_n 1, 1), (1122, .aload_n 0, 1), (1123, .iload 4, 2), (1125, .iconst 1, 1), (1126, .iadd, 1), (1127, .iaload, 1), (1128, .invokevirtual 147, 3), (1131, .aload_n 2, 1), (1132, .aload_n 0, 1), (1133, .iload 4, 2), (1135, .iconst 1, 1), (1136, .iadd, 1), (1137, .iaload, 1), (1138, .invokevirtual 150, 3), (1141, .if_icmp .eq 305, 3), (1144, .iconst 0, 1), (1145, .ireturn, 1), (1146, .aload_n 1, 1), (1147, .aload_n 0, 1), (1148, .iload 4, 2), (1150, .iconst 1, 1), (1151, .iadd, 1), (1152, .iaload, 1), (1153, .invokevirtual 151, 3), (1156, .aload_n 2, 1), (1157, .aload_n 0, 1), (1158, .iload 4, 2), (1160, .iconst 1, 1), (1161, .iadd, 1), (1162, .iaload, 1), (1163, .invokevirtual 154, 3), (1166, .if_icmp .eq 280, 3), (1169, .iconst 0, 1), (1170, .ireturn, 1), (1171, .aload_n 1, 1), (1172, .aload_n 0, 1), (1173, .iload 4, 2), (1175, .iconst 1, 1), (1176, .iadd, 1), (1177, .iaload, 1), (1178, .aload_n 0, 1), (1179, .iload 4, 2), (1181, .iconst 2, 1), (1182, .iadd, 1), (1183, .iaload, 1), (1184, .invokevirtual 155, 3), (1187, .aload_n 2, 1), (1188, .aload_n 0, 1), (1189, .iload 4, 2), (1191, .iconst 1, 1), (1192, .iadd, 1), (1193, .iaload, 1), (1194, .aload_n 0, 1), (1195, .iload 4, 2), (1197, .iconst 2, 1), (1198, .iadd, 1), (1199, .iaload, 1), (1200, .invokevirtual 158, 3), (1203, .if_icmp .eq 243, 3), (1206, .iconst 0, 1), (1207, .ireturn, 1), (1208, .aload_n 1, 1), (1209, .invokevirtual 159, 3), (1212, .aload_n 2, 1), (1213, .invokevirtual 162, 3), (1216, .if_icmp .eq 230, 3), (1219, .iconst 0, 1), (1220, .ireturn, 1), (1221, .aload_n 1, 1), (1222, .aload_n 0, 1), (1223, .iload 4, 2), (1225, .iconst 1, 1), (1226, .iadd, 1), (1227, .iaload, 1), (1228, .aload_n 0, 1), (1229, .iload 4, 2), (1231, .iconst 2, 1), (1232, .iadd, 1), (1233, .iaload, 1), (1234, .invokevirtual 163, 3), (1237, .aload_n 2, 1), (1238, .aload_n 0, 1), (1239, .iload 4, 2), (1241, .iconst 1, 1), (1242, .iadd, 1), (1243, .iaload, 1), (1244, .aload_n 0, 1), (1245, .iload 4, 2), (1247, .iconst 2, 1), (1248, .iadd, 1), (1249, .iaload, 1), (1250, .invokevirtual 166, 3), (1253, .if_icmp .eq 193, 3), (1256, .iconst 0, 1), (1257, .ireturn, 1), (1258, .aload_n 1, 1), (1259, .aload_n 0, 1), (1260, .iload 4, 2), (1262, .iconst 1, 1), (1263, .iadd, 1), (1264, .iaload, 1), (1265, .invokevirtual 167, 3), (1268, .aload_n 2, 1), (1269, .aload_n 0, 1), (1270, .iload 4, 2), (1272, .iconst 1, 1), (1273, .iadd, 1), (1274, .iaload, 1), (1275, .invokevirtual 170, 3), (1278, .if_icmp .eq 168, 3), (1281, .iconst 0, 1), (1282, .ireturn, 1), (1283, .aload_n 1, 1), (1284, .aload_n 0, 1), (1285, .iload 4, 2), (1287, .iconst 1, 1), (1288, .iadd, 1), (1289, .iaload, 1), (1290, .invokevirtual 171, 3), (1293, .aload_n 2, 1), (1294, .aload_n 0, 1), (1295, .iload 4, 2), (1297, .iconst 1, 1), (1298, .iadd, 1), (1299, .iaload, 1), (1300, .invokevirtual 174, 3), (1303, .if_icmp .eq 143, 3), (1306, .iconst 0, 1), (1307, .ireturn, 1), (1308, .aload_n 1, 1), (1309, .aload_n 0, 1), (1310, .iload 4, 2), (1312, .iconst 1, 1), (1313, .iadd, 1), (1314, .iaload, 1), (1315, .aload_n 0, 1), (1316, .iload 4, 2), (1318, .iconst 2, 1), (1319, .iadd, 1), (1320, .iaload, 1), (1321, .invokevirtual 175, 3), (1324, .aload_n 2, 1), (1325, .aload_n 0, 1), (1326, .iload 4, 2), (1328, .iconst 1, 1), (1329, .iadd, 1), (1330, .iaload, 1), (1331, .aload_n 0, 1), (1332, .iload 4, 2), (1334, .iconst 2, 1), (1335, .iadd, 1), (1336, .iaload, 1), (1337, .invokevirtual 178, 3), (1340, .if_icmp .eq 106, 3), (1343, .iconst 0, 1), (1344, .ireturn, 1), (1345, .aload_n 1, 1), (1346, .invokevirtual 179, 3), (1349, .aload_n 2, 1), (1350, .invokevirtual 182, 3), (1353, .if_icmp .eq 93, 3), (1356, .iconst 0, 1), (1357, .ireturn, 1), (1358, .aload_n 1, 1), (1359, .invokevirtual 183, 3), (1362, .aload_n 2, 1), (1363, .invokevirtual 186, 3), (1366, .if_icmp .eq 80, 3), (1369, .iconst 0, 1), (1370, .ireturn, 1), (1371, .aload_n 1, 1), (1372, .aload_n 0, 1), (1373, .iload 4, 2), (1375, .iconst 1, 1), (1376, .iadd, 1), (1377, .iaload, 1), (1378, .invokevirtual 187, 3), (1381, .aload_n 2, 1), (1382, .aload_n 0, 1), (1383, .iload 4, 2), (1385, .iconst 1, 1), (1386, .iadd, 1), (1387, .iaload, 1), (1388, .invokevirtual 190, 3), (1391, .if_icmp .eq 55, 3), (1394, .iconst 0, 1), (1395, .ireturn, 1), (1396, .aload_n 1, 1), (1397, .aload_n 0, 1), (1398, .iload 4, 2), (1400, .iconst 1, 1), (1401, .iadd, 1), (1402, .iaload, 1), (1403, .invokevirtual 191, 3), (1406, .aload_n 2, 1), (1407, .aload_n 0, 1), (1408, .iload 4, 2), (1410, .iconst 1, 1), (1411, .iadd, 1), (1412, .iaload, 1), (1413, .invokevirtual 194, 3), (1416, .if_icmp .eq 30, 3), (1419, .iconst 0, 1), (1420, .ireturn, 1), (1421, .aload_n 1, 1), (1422, .aload_n 0, 1), (1423, .iload 4, 2), (1425, .iconst 1, 1), (1426, .iadd, 1), (1427, .iaload, 1), (1428, .invokevirtual 195, 3), (1431, .aload_n 2, 1), (1432, .aload_n 0, 1), (1433, .iload 4, 2), (1435, .iconst 1, 1), (1436, .iadd, 1), (1437, .iaload, 1), (1438, .invokevirtual 198, 3), (1441, .if_icmp .eq 5, 3), (1444, .iconst 0, 1), (1445, .ireturn, 1), (1446, .iinc 4 6, 3), (1449, .goto (-1426), 3), (1452, .iconst 1, 1), (1453, .ireturn, 1)]
def gC1 : List (Nat × Instr × Nat) := [(0, .aload_n 0, 1), (1, .invokespecial 3, 3), (4, .aload_n 0, 1), (5, .aload_n 1, 1), (6, .putfield 9, 3), (9, .aload_n 0, 1), (10, .aload_n 2, 1), (11, .putfield 15, 3), (14, .aload_n 0, 1), (15, .aload_n 3, 1), (16, .putfield 19, 3), (19, .return_, 1)]
def gC2 : List (Nat × Instr × Nat) := [(0, .aload_n 0, 1), (1, .getfield 19, 3), (4, .iconst 0, 1), (5, .putfield 23, 3), (8, .iconst 0, 1), (9, .istore_n 1, 1), (10, .iload_n 1, 1), (11, .sipush 400, 3), (14, .if_icmp .ge 27, 3), (17, .aload_n 0, 1), (18, .getfield 9, 3), (21, .getfield 29, 3), (24, .iconst 1, 1), (25, .if_icmp .eq 16, 3), (28, .aload_n 0, 1), (29, .invokevirtual 34, 3), (32, .ifCond .eq 9, 3), (35, .iinc 1 1, 3), (38, .goto (-28), 3), (41, .return_, 1)]
def gC3 : List (Nat × Instr × Nat) := [(0, .aload_n 0, 1), (1, .getfield 19, 3), (4, .getfield 23, 3), (7, .istore_n 1, 1), (8, .aload_n 0, 1), (9, .getfield 9, 3), (12, .ldc 38, 2), (14, .invokevirtual 40, 3), (17, .iconst (-1), 1), (18, .if_icmp .ne 12, 3), (21, .aload_n 0, 1), (22, .getfield 9, 3), (25, .iconst 1, 1), (26, .invokevirtual 44, 3), (29, .ireturn, 1), (30, .iload_n 1, 1), (31, .bipush 30, 2), (33, .if_icmp .lt 12, 3), (36, .aload_n 0, 1), (37, .getfield 9, 3), (40, .iconst 4, 1), (41, .invokevirtual 44, 3), (44, .ireturn, 1), (45, .aload_n 0, 1), (46, .getfield 9, 3), (49, .invokevirtual 48, 3), (52, .iload_n 1, 1), (53, .ifCond .le 17, 3), (56, .aload_n 0, 1), (57, .getfield 19, 3), (60, .getfield 51, 3), (63, .iload_n 1, 1), (64, .iconst 1, 1), (65, .isub, 1), (66, .iaload, 1), (67, .goto 4, 3), (70, .iconst 0, 1), (71, .istore_n 2, 1), (72, .aload_n 0, 1), (73, .getfield 9, 3), (76, .iload_n 2, 1), (77, .sipush 600, 3), (80, .invokevirtual 55, 3), (83, .ifCond .ne 5, 3), (86, .iconst 0, 1), (87, .ireturn, 1), (88, .aload_n 0, 1), (89, .getfield 19, 3), (92, .getfield 51, 3), (95, .iload_n 1, 1), (96, .aload_n 0, 1), (97, .getfield 9, 3), (100, .getfield 59, 3), (103, .iastore, 1), (104, .aload_n 0, 1), (105, .getfield 9, 3), (108, .ldc 62, 2), (110, .invokevirtual 40, 3), (113, .istore_n 3, 1), (114, .iload_n 3, 1), (115, .iconst (-1), 1), (116, .if_icmp .ne 12, 3), (119, .aload_n 0, 1), (120, .getfield 9, 3), (123, .iconst 1, 1), (124, .invokevirtual 44, 3), (127, .ireturn, 1), (128, .aload_n 0, 1), (129, .getfield 19, 3), (132, .getfield 64, 3), (135, .iload_n 1, 1), (136, .iload_n 3, 1), (137, .iastore, 1), (138, .aload_n 0, 1), (139, .getfield 19, 3), (142, .getfield 67, 3), (145, .iload_n 1, 1), (146, .iconst (-1), 1), (147, .iastore, 1), (148, .aload_n 0, 1), (149, .getfield 9, 3), (152, .invokevirtual 48, 3), (155, .iload_n 3, 1), (156, .iconst 3, 1), (157, .if_icmp .eq 13, 3), (160, .aload_n 0, 1), (161, .iload_n 1, 1), (162, .invokevirtual 70, 3), (165, .ifCond .ne 5, 3), (168, .iconst 0, 1), (169, .ireturn, 1), (170, .aload_n 0, 1), (171, .getfield 19, 3), (174, .iload_n 1, 1), (175, .iconst 1, 1), (176, .iadd, 1), (177, .putfield 23, 3), (180, .aload_n 0, 1), (181, .getfield 9, 3), (184, .bipush 59, 2), (186, .invokevirtual 73, 3), (189, .ireturn, 1)]
def gC4 : List (Nat × Instr × Nat) := [(0, .aload_n 0, 1), (1, .getfield 9, 3), (4, .iconst 0, 1), (5, .aload_n 0, 1), (6, .getfield 15, 3), (9, .getfield 76, 3), (12, .iconst 1, 1), (13, .isub, 1), (14, .invokevirtual 55, 3), (17, .ifCond .ne 5, 3), (20, .iconst 0, 1), (21, .ireturn, 1), (22, .aload_n 0, 1), (23, .getfield 9, 3), (26, .getfield 59, 3), (29, .istore_n 2, 1), (30, .aload_n 0, 1), (31, .getfield 9, 3), (34, .iconst 0, 1), (35, .aload_n 0, 1), (36, .getfield 15, 3), (39, .getfield 81, 3), (42, .iconst 1, 1), (43, .isub, 1), (44, .invokevirtual 84, 3), (47, .ifCond .ne 5, 3), (50, .iconst 0, 1), (51, .ireturn, 1), (52, .iload_n 2, 1), (53, .aload_n 0, 1), (54, .getfield 15, 3), (57, .getfield 81, 3), (60, .imul, 1), (61, .aload_n 0, 1), (62, .getfield 9, 3), (65, .getfield 87, 3), (68, .iadd, 1), (69, .istore_n 3, 1), (70, .aload_n 0, 1), (71, .getfield 15, 3), (74, .iload_n 3, 1), (75, .invokevirtual 90, 3), (78, .ifCond .ne 12, 3), (81, .aload_n 0, 1), (82, .getfield 9, 3), (85, .iconst 2, 1), (86, .invokevirtual 44, 3), (89, .ireturn, 1), (90, .aload_n 0, 1), (91, .getfield 19, 3), (94, .getfield 67, 3), (97, .iload_n 1, 1), (98, .iload_n 3, 1), (99, .iastore, 1), (100, .aload_n 0, 1), (101, .getfield 9, 3), (104, .invokevirtual 48, 3), (107, .iconst 1, 1), (108, .ireturn, 1)]
def gC5 : List (Nat × Instr × Nat) := [(0, .aload_n 0, 1), (1, .invokespecial 3, 3), (4, .aload_n 0, 1), (5, .sipush 601, 3), (8, .newarray .long, 2), (10, .putfield 9, 3), (13, .aload_n 0, 1), (14, .sipush 601, 3), (17, .newarray .long, 2), (19, .putfield 15, 3), (22, .aload_n 0, 1), (23, .sipush 601, 3), (26, .newarray .long, 2), (28, .putfield 18, 3), (31, .aload_n 0, 1), (32, .sipush 601, 3), (35, .newarray .long, 2), (37, .putfield 21, 3), (40, .aload_n 0, 1), (41, .aload_n 1, 1), (42, .putfield 24, 3), (45, .aload_n 0, 1), (46, .new 28, 3), (49, .dup, 1), (50, .aload_n 1, 1), (51, .invokespecial 30, 3), (54, .putfield 33, 3), (57, .return_, 1)]
def gC6 : List (Nat × Instr × Nat) := [(0, .aload_n 0, 1), (1, .iconst 0, 1), (2, .putfield 37, 3), (5, .return_, 1)]
def gC7 : List (Nat × Instr × Nat) := [(0, .aload_n 0, 1), (1, .getfield 37, 3), (4, .ifCond .ne 28, 3), (7, .aload_n 0, 1), (8, .getfield 33, 3), (11, .aload_n 0, 1), (12, .getfield 24, 3), (15, .getfield 41, 3), (18, .aload_n 0, 1), (19, .getfield 24, 3), (22, .getfield 47, 3), (25, .invokevirtual 50, 3), (28, .aload_n 0, 1), (29, .invokevirtual 54, 3), (32, .aload_n 0, 1), (33, .getfield 37, 3), (36, .istore_n 2, 1), (37, .iload_n 2, 1), (38, .iload_n 1, 1), (39, .if_icmp .gt 37, 3), (42, .iload_n 2, 1), (43, .sipush 600, 3), (46, .if_icmp .gt 30, 3), (49, .aload_n 0, 1), (50, .getfield 33, 3), (53, .getfield 57, 3), (56, .ifCond .ne 20, 3), (59, .aload_n 0, 1), (60, .getfield 33, 3), (63, .invokevirtual 61, 3), (66, .aload_n 0, 1), (67, .invokevirtual 54, 3), (70, .iinc 2 1, 3), (73, .goto (-36), 3), (76, .iconst 0, 1), (77, .iload_n 1, 1), (78, .aload_n 0, 1), (79, .getfield 37, 3), (82, .iconst 1, 1), (83, .isub, 1), (84, .invokestatic 64, 3), (87, .invokestatic 70, 3), (90, .ireturn, 1)]
def gC8 : List (Nat × Instr × Nat) := [(0, .aload_n 0, 1), (1, .getfield 37, 3), (4, .sipush 600, 3), (7, .if_icmp .gt 77, 3), (10, .aload_n 0, 1), (11, .getfield 9, 3), (14, .aload_n 0, 1), (15, .getfield 37, 3), (18, .aload_n 0, 1), (19, .getfield 33, 3), (22, .getfield 73, 3), (25, .lastore, 1), (26, .aload_n 0, 1), (27, .getfield 15, 3), (30, .aload_n 0, 1), (31, .getfield 37, 3), (34, .aload_n 0, 1), (35, .getfield 33, 3), (38, .getfield 75, 3), (41, .lastore, 1), (42, .aload_n 0, 1), (43, .getfield 18, 3), (46, .aload_n 0, 1), (47, .getfield 37, 3), (50, .aload_n 0, 1), (51, .getfield 33, 3), (54, .getfield 77, 3), (57, .lastore, 1), (58, .aload_n 0, 1), (59, .getfield 21, 3), (62, .aload_n 0, 1), (63, .getfield 37, 3), (66, .aload_n 0, 1), (67, .getfield 33, 3), (70, .getfield 79, 3), (73, .lastore, 1), (74, .aload_n 0, 1), (75, .dup, 1), (76, .getfield 37, 3), (79, .iconst 1, 1), (80, .iadd, 1), (81, .putfield 37, 3), (84, .return_, 1)]
def gC9 : List (Nat × Instr × Nat) := [(0, .iload_n 1, 1), (1, .ifCond .lt 37, 3), (4, .iload_n 1, 1), (5, .aload_n 0, 1), (6, .getfield 37, 3), (9, .if_icmp .ge 29, 3), (12, .aload_n 0, 1), (13, .getfield 15, 3), (16, .iload_n 1, 1), (17, .laload, 1), (18, .invokestatic 81, 3), (21, .aload_n 0, 1), (22, .getfield 24, 3), (25, .getfield 87, 3), (28, .getfield 91, 3), (31, .if_icmp .lt 7, 3), (34, .iconst 1, 1), (35, .goto 4, 3), (38, .iconst 0, 1), (39, .ireturn, 1)]
def gC10 : List (Nat × Instr × Nat) := [(0, .iconst 0, 1), (1, .istore_n 1, 1), (2, .iconst 0, 1), (3, .istore_n 2, 1), (4, .iload_n 2, 1), (5, .bipush 60, 2), (7, .if_icmp .gt 27, 3), (10, .iload_n 1, 1), (11, .aload_n 0, 1), (12, .getfield 15, 3), (15, .aload_n 0, 1), (16, .iload_n 2, 1), (17, .invokevirtual 96, 3), (20, .laload, 1), (21, .invokestatic 81, 3), (24, .invokestatic 70, 3), (27, .istore_n 1, 1), (28, .iinc 2 1, 3), (31, .goto (-27), 3), (34, .iload_n 1, 1), (35, .ireturn, 1)]
def gC11 : List (Nat × Instr × Nat) := [(0, .aload_n 0, 1), (1, .iload_n 1, 1), (2, .invokevirtual 96, 3), (5, .istore_n 2, 1), (6, .iload_n 1, 1), (7, .iconst 1, 1), (8, .iadd, 1), (9, .istore_n 3, 1), (10, .iload_n 3, 1), (11, .sipush 600, 3), (14, .if_icmp .gt 36, 3), (17, .aload_n 0, 1), (18, .iload_n 3, 1), (19, .invokevirtual 96, 3), (22, .istore 4, 2), (24, .aload_n 0, 1), (25, .iload_n 2, 1), (26, .iload 4, 2), (28, .invokevirtual 100, 3), (31, .ifCond .eq 5, 3), (34, .iload_n 3, 1), (35, .ireturn, 1), (36, .iload 4, 2), (38, .iload_n 3, 1), (39, .if_icmp .ge 5, 3), (42, .iconst (-1), 1), (43, .ireturn, 1), (44, .iinc 3 1, 3), (47, .goto (-37), 3), (50, .iconst (-1), 1), (51, .ireturn, 1)]
def gC12 : List (Nat × Instr × Nat) := [(0, .aload_n 0, 1), (1, .getfield 9, 3), (4, .iload_n 1, 1), (5, .laload, 1), (6, .aload_n 0, 1), (7, .getfield 9, 3), (10, .iload_n 2, 1), (11, .laload, 1), (12, .lcmp, 1), (13, .ifCond .ne 55, 3), (16, .aload_n 0, 1), (17, .getfield 15, 3), (20, .iload_n 1, 1), (21, .laload, 1), (22, .aload_n 0, 1), (23, .getfield 15, 3), (26, .iload_n 2, 1), (27, .laload, 1), (28, .lcmp, 1), (29, .ifCond .ne 39, 3), (32, .aload_n 0, 1), (33, .getfield 18, 3), (36, .iload_n 1, 1), (37, .laload, 1), (38, .aload_n 0, 1), (39, .getfield 18, 3), (42, .iload_n 2, 1), (43, .laload, 1), (44, .lcmp, 1), (45, .ifCond .ne 23, 3), (48, .aload_n 0, 1), (49, .getfield 21, 3), (52, .iload_n 1, 1), (53, .laload, 1), (54, .aload_n 0, 1), (55, .getfield 21, 3), (58, .iload_n 2, 1), (59, .laload, 1), (60, .lcmp, 1), (61, .ifCond .ne 7, 3), (64, .iconst 1, 1), (65, .goto 4, 3), (68, .iconst 0, 1), (69, .ireturn, 1)]
def gC13 : List (Nat × Instr × Nat) := [(0, .aload_n 0, 1), (1, .invokespecial 3, 3), (4, .aload_n 0, 1), (5, .new 9, 3), (8, .dup, 1), (9, .invokespecial 11, 3), (12, .putfield 12, 3), (15, .aload_n 0, 1), (16, .bipush 30, 2), (18, .newarray .int, 2), (20, .putfield 18, 3), (23, .aload_n 0, 1), (24, .bipush 30, 2), (26, .newarray .int, 2), (28, .putfield 22, 3), (31, .aload_n 0, 1), (32, .bipush 30, 2), (34, .newarray .int, 2), (36, .putfield 25, 3), (39, .return_, 1)]
def gC14 : List (Nat × Instr × Nat) := [(0, .aload_n 0, 1), (1, .getfield 12, 3), (4, .invokevirtual 28, 3), (7, .aload_n 0, 1), (8, .iconst 0, 1), (9, .putfield 31, 3), (12, .aload_n 0, 1), (13, .lconst 0, 1), (14, .putfield 35, 3), (17, .aload_n 0, 1), (18, .lconst 0, 1), (19, .putfield 39, 3), (22, .return_, 1)]
def gC15 : List (Nat × Instr × Nat) := [(0, .aload_n 0, 1), (1, .getfield 12, 3), (4, .aload_n 1, 1), (5, .getfield 12, 3), (8, .invokevirtual 42, 3), (11, .aload_n 0, 1), (12, .aload_n 1, 1), (13, .invokevirtual 46, 3), (16, .aload_n 0, 1), (17, .aload_n 1, 1), (18, .getfield 35, 3), (21, .putfield 35, 3), (24, .aload_n 0, 1), (25, .aload_n 1, 1), (26, .getfield 39, 3), (29, .putfield 39, 3), (32, .return_, 1)]
def gC16 : List (Nat × Instr × Nat) := [(0, .aload_n 0, 1), (1, .aload_n 1, 1), (2, .getfield 31, 3), (5, .putfield 31, 3), (8, .aload_n 1, 1), (9, .getfield 18, 3), (12, .iconst 0, 1), (13, .aload_n 0, 1), (14, .getfield 18, 3), (17, .iconst 0, 1), (18, .bipush 30, 2), (20, .invokestatic 50, 3), (23, .aload_n 1, 1), (24, .getfield 22, 3), (27, .iconst 0, 1), (28, .aload_n 0, 1), (29, .getfield 22, 3), (32, .iconst 0, 1), (33, .bipush 30, 2), (35, .invokestatic 50, 3), (38, .aload_n 1, 1), (39, .getfield 25, 3), (42, .iconst 0, 1), (43, .aload_n 0, 1), (44, .getfield 25, 3), (47, .iconst 0, 1), (48, .bipush 30, 2), (50, .invokestatic 50, 3), (53, .return_, 1)]
def gC17 : List (Nat × Instr × Nat) := [(0, .aload_n 0, 1), (1, .getfield 31, 3), (4, .ifCond .le 26, 3), (7, .aload_n 0, 1), (8, .getfield 31, 3), (11, .bipush 30, 2), (13, .if_icmp .gt 17, 3), (16, .aload_n 0, 1), (17, .getfield 18, 3), (20, .aload_n 0, 1), (21, .getfield 31, 3), (24, .iconst 1, 1), (25, .isub, 1), (26, .iaload, 1), (27, .goto 4, 3), (30, .iconst (-1), 1), (31, .istore_n 1, 1), (32, .aload_n 0, 1), (33, .getfield 12, 3), (36, .invokevirtual 56, 3), (39, .iload_n 1, 1), (40, .invokestatic 60, 3), (43, .ireturn, 1)]
def gC18 : List (Nat × Instr × Nat) := [(0, .iconst 0, 1), (1, .aload_n 0, 1), (2, .invokevirtual 66, 3), (5, .invokestatic 60, 3), (8, .istore_n 1, 1), (9, .aload_n 0, 1), (10, .getfield 12, 3), (13, .getfield 69, 3), (16, .sipush 600, 3), (19, .if_icmp .ge 24, 3), (22, .aload_n 0, 1), (23, .invokevirtual 72, 3), (26, .ifCond .eq 17, 3), (29, .iload_n 1, 1), (30, .aload_n 0, 1), (31, .getfield 12, 3), (34, .getfield 69, 3), (37, .iconst 1, 1), (38, .iadd, 1), (39, .invokestatic 60, 3), (42, .istore_n 1, 1), (43, .iload_n 1, 1), (44, .ireturn, 1)]
def gC19 : List (Nat × Instr × Nat) := [(0, .aload_n 0, 1), (1, .getfield 35, 3), (4, .lconst 0, 1), (5, .lcmp, 1), (6, .ifCond .eq 7, 3), (9, .iconst 1, 1), (10, .goto 4, 3), (13, .iconst 0, 1), (14, .istore_n 1, 1), (15, .iconst 0, 1), (16, .istore_n 2, 1), (17, .iload_n 2, 1), (18, .aload_n 0, 1), (19, .getfield 31, 3), (22, .if_icmp .ge 34, 3), (25, .iload_n 2, 1), (26, .bipush 30, 2), (28, .if_icmp .ge 28, 3), (31, .iload_n 1, 1), (32, .ifCond .ne 12, 3), (35, .aload_n 0, 1), (36, .getfield 22, 3), (39, .iload_n 2, 1), (40, .iaload, 1), (41, .ifCond .ne 7, 3), (44, .iconst 1, 1), (45, .goto 4, 3), (48, .iconst 0, 1), (49, .istore_n 1, 1), (50, .iinc 2 1, 3), (53, .goto (-36), 3), (56, .iload_n 1, 1), (57, .ireturn, 1)]
def gC20 : List (Nat × Instr × Nat) := [(0, .aload_n 0, 1), (1, .invokespecial 3, 3), (4, .aload_n 0, 1), (5, .bipush 64, 2), (7, .newarray .int, 2), (9, .putfield 9, 3), (12, .aload_n 0, 1), (13, .bipush 6, 2), (15, .newarray .long, 2), (17, .putfield 15, 3), (20, .aload_n 0, 1), (21, .bipush 8, 2), (23, .newarray .int, 2), (25, .putfield 19, 3), (28, .aload_n 0, 1), (29, .bipush 8, 2), (31, .newarray .int, 2), (33, .putfield 22, 3), (36, .aload_n 0, 1), (37, .bipush 12, 2), (39, .newarray .int, 2), (41, .putfield 25, 3), (44, .aload_n 0, 1), (45, .sipush 240, 3), (48, .newarray .int, 2), (50, .putfield 28, 3), (53, .aload_n 0, 1), (54, .sipush 384, 3), (57, .newarray .long, 2), (59, .putfield 31, 3), (62, .aload_n 0, 1), (63, .invokevirtual 34, 3), (66, .return_, 1)]
def gC21 : List (Nat × Instr × Nat) := [(0, .aload_n 0, 1), (1, .iconst 0, 1), (2, .putfield 37, 3), (5, .aload_n 0, 1), (6, .iconst 0, 1), (7, .putfield 41, 3), (10, .aload_n 0, 1), (11, .iconst 1, 1), (12, .putfield 44, 3), (15, .aload_n 0, 1), (16, .sipush 600, 3), (19, .putfield 47, 3), (22, .aload_n 0, 1), (23, .iconst 0, 1), (24, .putfield 50, 3), (27, .aload_n 0, 1), (28, .lconst 0, 1), (29, .putfield 54, 3), (32, .aload_n 0, 1), (33, .getfield 15, 3), (36, .lconst 0, 1), (37, .invokestatic 58, 3), (40, .aload_n 0, 1), (41, .getfield 19, 3), (44, .bipush 10, 2), (46, .invokestatic 64, 3), (49, .aload_n 0, 1), (50, .getfield 22, 3), (53, .iconst (-1), 1), (54, .invokestatic 64, 3), (57, .aload_n 0, 1), (58, .getfield 25, 3), (61, .iconst (-1), 1), (62, .invokestatic 64, 3), (65, .return_, 1)]
def gC22 : List (Nat × Instr × Nat) := [(0, .aload_n 0, 1), (1, .aload_n 1, 1), (2, .getfield 37, 3), (5, .putfield 37, 3), (8, .aload_n 0, 1), (9, .aload_n 1, 1), (10, .getfield 41, 3), (13, .putfield 41, 3), (16, .aload_n 0, 1), (17, .aload_n 1, 1), (18, .getfield 44, 3), (21, .putfield 44, 3), (24, .aload_n 0, 1), (25, .aload_n 1, 1), (26, .getfield 47, 3), (29, .putfield 47, 3), (32, .aload_n 0, 1), (33, .aload_n 1, 1), (34, .getfield 50, 3), (37, .putfield 50, 3), (40, .aload_n 0, 1), (41, .aload_n 1, 1), (42, .getfield 54, 3), (45, .putfield 54, 3), (48, .aload_n 1, 1), (49, .getfield 9, 3), (52, .iconst 0, 1), (53, .aload_n 0, 1), (54, .getfield 9, 3), (57, .iconst 0, 1), (58, .bipush 64, 2), (60, .invokestatic 67, 3), (63, .aload_n 1, 1), (64, .getfield 15, 3), (67, .iconst 0, 1), (68, .aload_n 0, 1), (69, .getfield 15, 3), (72, .iconst 0, 1), (73, .bipush 6, 2), (75, .invokestatic 67, 3), (78, .aload_n 1, 1), (79, .getfield 19, 3), (82, .iconst 0, 1), (83, .aload_n 0, 1), (84, .getfield 19, 3), (87, .iconst 0, 1), (88, .bipush 8, 2), (90, .invokestatic 67, 3), (93, .aload_n 1, 1), (94, .getfield 22, 3), (97, .iconst 0, 1), (98, .aload_n 0, 1), (99, .getfield 22, 3), (102, .iconst 0, 1), (103, .bipush 8, 2), (105, .invokestatic 67, 3), (108, .aload_n 1, 1), (109, .getfield 25, 3), (112, .iconst 0, 1), (113, .aload_n 0, 1), (114, .getfield 25, 3), (117, .iconst 0, 1), (118, .bipush 12, 2), (120, .invokestatic 67, 3), (123, .aload_n 1, 1), (124, .getfield 28, 3), (127, .iconst 0, 1), (128, .aload_n 0, 1), (129, .getfield 28, 3), (132, .iconst 0, 1), (133, .sipush 240, 3), (136, .invokestatic 67, 3), (139, .aload_n 1, 1), (140, .getfield 31, 3), (143, .iconst 0, 1), (144, .aload_n 0, 1), (145, .getfield 31, 3), (148, .iconst 0, 1), (149, .sipush 384, 3), (152, .invokestatic 67, 3), (155, .return_, 1)]
def gC23 : List (Nat × Instr × Nat) := [(0, .aload_n 0, 1), (1, .getfield 37, 3), (4, .aload_n 0, 1), (5, .getfield 41, 3), (8, .imul, 1), (9, .ireturn, 1)]
def gC24 : List (Nat × Instr × Nat) := [(0, .iload_n 1, 1), (1, .ifCond .lt 26, 3), (4, .iload_n 1, 1), (5, .bipush 64, 2), (7, .if_icmp .ge 20, 3), (10, .aload_n 0, 1), (11, .getfield 54, 3), (14, .iload_n 1, 1), (15, .lushr, 1), (16, .lconst 1, 1), (17, .land, 1), (18, .lconst 0, 1), (19, .lcmp, 1), (20, .ifCond .eq 7, 3), (23, .iconst 1, 1), (24, .goto 4, 3), (27, .iconst 0, 1), (28, .ireturn, 1)]
def gC25 : List (Nat × Instr × Nat) := [(0, .aload_n 0, 1), (1, .getfield 41, 3), (4, .ifCond .le 24, 3), (7, .iload_n 1, 1), (8, .ifCond .lt 20, 3), (11, .iload_n 1, 1), (12, .aload_n 0, 1), (13, .invokevirtual 73, 3), (16, .if_icmp .ge 12, 3), (19, .iload_n 1, 1), (20, .aload_n 0, 1), (21, .getfield 41, 3), (24, .idiv, 1), (25, .goto 4, 3), (28, .iconst 0, 1), (29, .ireturn, 1)]
def gC26 : List (Nat × Instr × Nat) := [(0, .aload_n 0, 1), (1, .getfield 19, 3), (4, .aload_n 0, 1), (5, .iload_n 1, 1), (6, .invokevirtual 77, 3), (9, .iaload, 1), (10, .ireturn, 1)]
def gC27 : List (Nat × Instr × Nat) := [(0, .aload_n 0, 1), (1, .getfield 22, 3), (4, .aload_n 0, 1), (5, .iload_n 1, 1), (6, .invokevirtual 77, 3), (9, .iaload, 1), (10, .ireturn, 1)]
def gC28 : List (Nat × Instr × Nat) := [(0, .lconst 1, 1), (1, .aload_n 0, 1), (2, .getfield 41, 3), (5, .lshl, 1), (6, .lconst 1, 1), (7, .lsub, 1), (8, .iload_n 1, 1), (9, .aload_n 0, 1), (10, .getfield 41, 3), (13, .imul, 1), (14, .lshl, 1), (15, .lreturn, 1)]
def gC29 : List (Nat × Instr × Nat) := [(0, .iconst (-1), 1), (1, .istore_n 1, 1), (2, .iconst 0, 1), (3, .istore_n 2, 1), (4, .iload_n 2, 1), (5, .aload_n 0, 1), (6, .getfield 37, 3), (9, .if_icmp .ge 20, 3), (12, .iload_n 1, 1), (13, .aload_n 0, 1), (14, .getfield 22, 3), (17, .iload_n 2, 1), (18, .iaload, 1), (19, .invokestatic 81, 3), (22, .istore_n 1, 1), (23, .iinc 2 1, 3), (26, .goto (-22), 3), (29, .iload_n 1, 1), (30, .ireturn, 1)]
def gC30 : List (Nat × Instr × Nat) := [(0, .aload_n 0, 1), (1, .getfield 9, 3), (4, .iload_n 1, 1), (5, .iaload, 1), (6, .istore_n 3, 1), (7, .aload_n 0, 1), (8, .iload_n 1, 1), (9, .aload_n 0, 1), (10, .getfield 9, 3), (13, .iload_n 2, 1), (14, .iaload, 1), (15, .invokevirtual 87, 3), (18, .aload_n 0, 1), (19, .iload_n 2, 1), (20, .iload_n 3, 1), (21, .invokevirtual 87, 3), (24, .return_, 1)]
def gC31 : List (Nat × Instr × Nat) := [(0, .iconst 0, 1), (1, .istore_n 3, 1), (2, .iload_n 3, 1), (3, .bipush 6, 2), (5, .if_icmp .ge 35, 3), (8, .aload_n 0, 1), (9, .getfield 15, 3), (12, .iload_n 3, 1), (13, .aload_n 0, 1), (14, .getfield 15, 3), (17, .iload_n 3, 1), (18, .laload, 1), (19, .iload_n 1, 1), (20, .iload_n 3, 1), (21, .iload_n 2, 1), (22, .if_icmp .ne 7, 3), (25, .iconst 1, 1), (26, .goto 4, 3), (29, .iconst 0, 1), (30, .invokestatic 91, 3), (33, .lastore, 1), (34, .iinc 3 1, 3), (37, .goto (-35), 3), (40, .aload_n 0, 1), (41, .getfield 9, 3), (44, .iload_n 1, 1), (45, .iload_n 2, 1), (46, .iastore, 1), (47, .return_, 1)]
def gC32 : List (Nat × Instr × Nat) := [(0, .aload_n 0, 1), (1, .lconst 0, 1), (2, .putfield 54, 3), (5, .iconst 0, 1), (6, .istore_n 1, 1), (7, .iload_n 1, 1), (8, .aload_n 0, 1), (9, .invokevirtual 73, 3), (12, .if_icmp .ge 52, 3), (15, .iload_n 1, 1), (16, .bipush 64, 2), (18, .if_icmp .ge 46, 3), (21, .aload_n 0, 1), (22, .iload_n 1, 1), (23, .aload_n 0, 1), (24, .getfield 9, 3), (27, .iload_n 1, 1), (28, .iaload, 1), (29, .invokevirtual 87, 3), (32, .aload_n 0, 1), (33, .dup, 1), (34, .getfield 54, 3), (37, .aload_n 0, 1), (38, .getfield 9, 3), (41, .iload_n 1, 1), (42, .iaload, 1), (43, .iconst (-1), 1), (44, .if_icmp .ne 7, 3), (47, .lconst 0, 1), (48, .goto 6, 3), (51, .lconst 1, 1), (52, .iload_n 1, 1), (53, .lshl, 1), (54, .lor, 1), (55, .putfield 54, 3), (58, .iinc 1 1, 3), (61, .goto (-54), 3), (64, .iconst 0, 1), (65, .istore_n 1, 1), (66, .iload_n 1, 1), (67, .bipush 64, 2), (69, .if_icmp .ge 22, 3), (72, .aload_n 0, 1), (73, .iload_n 1, 1), (74, .invokevirtual 95, 3), (77, .ifCond .eq 8, 3), (80, .aload_n 0, 1), (81, .iload_n 1, 1), (82, .invokevirtual 99, 3), (85, .iinc 1 1, 3), (88, .goto (-22), 3), (91, .return_, 1)]
def gC33 : List (Nat × Instr × Nat) := [(0, .aload_n 0, 1), (1, .iload_n 1, 1), (2, .invokevirtual 77, 3), (5, .istore_n 2, 1), (6, .iload_n 1, 1), (7, .iload_n 2, 1), (8, .aload_n 0, 1), (9, .getfield 41, 3), (12, .imul, 1), (13, .isub, 1), (14, .istore_n 3, 1), (15, .lconst 1, 1), (16, .iload_n 1, 1), (17, .lshl, 1), (18, .lstore 4, 2), (20, .aload_n 0, 1), (21, .iload_n 2, 1), (22, .iload_n 3, 1), (23, .iconst 1, 1), (24, .invokevirtual 103, 3), (27, .lload 4, 2), (29, .ldc2_w 107, 3), (32, .lxor, 1), (33, .land, 1), (34, .lstore 6, 2), (36, .aload_n 0, 1), (37, .iload_n 2, 1), (38, .iconst 1, 1), (39, .isub, 1), (40, .iload_n 3, 1), (41, .iconst 0, 1), (42, .invokevirtual 103, 3), (45, .lstore 8, 2), (47, .aload_n 0, 1), (48, .getfield 31, 3), (51, .iload_n 1, 1), (52, .aload_n 0, 1), (53, .iload_n 2, 1), (54, .iconst 1, 1), (55, .isub, 1), (56, .iload_n 3, 1), (57, .iconst 1, 1), (58, .invokevirtual 103, 3), (61, .lload 6, 2), (63, .lor, 1), (64, .aload_n 0, 1), (65, .iload_n 2, 1), (66, .iconst 1, 1), (67, .iadd, 1), (68, .iload_n 3, 1), (69, .iconst 1, 1), (70, .invokevirtual 103, 3), (73, .lor, 1), (74, .lastore, 1), (75, .aload_n 0, 1), (76, .getfield 31, 3), (79, .bipush 64, 2), (81, .iload_n 1, 1), (82, .iadd, 1), (83, .lload 8, 2), (85, .lastore, 1), (86, .aload_n 0, 1), (87, .getfield 31, 3), (90, .sipush 128, 3), (93, .iload_n 1, 1), (94, .iadd, 1), (95, .lload 6, 2), (97, .lastore, 1), (98, .aload_n 0, 1), (99, .getfield 31, 3), (102, .sipush 192, 3), (105, .iload_n 1, 1), (106, .iadd, 1), (107, .aload_n 0, 1), (108, .iload_n 2, 1), (109, .iconst 1, 1), (110, .iadd, 1), (111, .iload_n 3, 1), (112, .iconst 0, 1), (113, .invokevirtual 103, 3), (116, .lastore, 1), (117, .aload_n 0, 1), (118, .iload_n 2, 1), (119, .iconst 1, 1), (120, .isub, 1), (121, .iload_n 3, 1), (122, .iconst 1, 1), (123, .invokevirtual 103, 3), (126, .aload_n 0, 1), (127, .iload_n 2, 1), (128, .iconst 2, 1), (129, .isub, 1), (130, .iload_n 3, 1), (131, .iconst 2, 1), (132, .invokevirtual 103, 3), (135, .lor, 1), (136, .aload_n 0, 1), (137, .iload_n 2, 1), (138, .iconst 3, 1), (139, .isub, 1), (140, .iload_n 3, 1), (141, .iconst 3, 1), (142, .invokevirtual 103, 3), (145, .lor, 1), (146, .lstore 10, 2), (148, .aload_n 0, 1), (149, .getfield 31, 3), (152, .sipush 256, 3), (155, .iload_n 1, 1), (156, .iadd, 1), (157, .lload 8, 2), (159, .lconst 0, 1), (160, .lcmp, 1), (161, .ifCond .ne 7, 3), (164, .lconst 0, 1), (165, .goto 5, 3), (168, .lload 10, 2), (170, .lastore, 1), (171, .aload_n 0, 1), (172, .getfield 31, 3), (175, .sipush 320, 3), (178, .iload_n 1, 1), (179, .iadd, 1), (180, .aload_n 0, 1), (181, .getfield 54, 3), (184, .lload 4, 2), (186, .ldc2_w 107, 3), (189, .lxor, 1), (190, .land, 1), (191, .lastore, 1), (192, .return_, 1)]
def gC34 : List (Nat × Instr × Nat) := [(0, .iload_n 1, 1), (1, .ifCond .lt 11, 3), (4, .iload_n 1, 1), (5, .aload_n 0, 1), (6, .getfield 37, 3), (9, .if_icmp .lt 5, 3), (12, .lconst 0, 1), (13, .lreturn, 1), (14, .lconst 0, 1), (15, .lstore 4, 2), (17, .aload_n 0, 1), (18, .getfield 41, 3), (21, .iconst 1, 1), (22, .isub, 1), (23, .iload_n 2, 1), (24, .iload_n 3, 1), (25, .iadd, 1), (26, .invokestatic 109, 3), (29, .istore 6, 2), (31, .iconst 0, 1), (32, .iload_n 2, 1), (33, .iload_n 3, 1), (34, .isub, 1), (35, .invokestatic 81, 3), (38, .istore 7, 2), (40, .iload 7, 2), (42, .iload 6, 2), (44, .if_icmp .gt 25, 3), (47, .lload 4, 2), (49, .lconst 1, 1), (50, .iload_n 1, 1), (51, .aload_n 0, 1), (52, .getfield 41, 3), (55, .imul, 1), (56, .iload 7, 2), (58, .iadd, 1), (59, .lshl, 1), (60, .lor, 1), (61, .lstore 4, 2), (63, .iinc 7 1, 3), (66, .goto (-26), 3), (69, .lload 4, 2), (71, .aload_n 0, 1), (72, .getfield 54, 3), (75, .land, 1), (76, .lreturn, 1)]
def gC35 : List (Nat × Instr × Nat) := [(0, .aload_n 0, 1), (1, .invokespecial 3, 3), (4, .aload_n 0, 1), (5, .aload_n 1, 1), (6, .putfield 9, 3), (9, .aload_n 0, 1), (10, .aload_n 2, 1), (11, .putfield 15, 3), (14, .return_, 1)]
def gC36 : List (Nat × Instr × Nat) := [(0, .aload_n 0, 1), (1, .iconst 0, 1), (2, .putfield 19, 3), (5, .aload_n 0, 1), (6, .iconst 0, 1), (7, .putfield 23, 3), (10, .aload_n 0, 1), (11, .iconst 0, 1), (12, .putfield 27, 3), (15, .return_, 1)]
def gC37 : List (Nat × Instr × Nat) := [(0, .aload_n 0, 1), (1, .getfield 9, 3), (4, .ldc 30, 2), (6, .invokevirtual 32, 3), (9, .tableswitch 113 0 7 #[47, 55, 64, 73, 81, 89, 97, 105], 47), (56, .aload_n 0, 1), (57, .invokevirtual 38, 3), (60, .istore_n 1, 1), (61, .goto 70, 3), (64, .aload_n 0, 1), (65, .iconst 0, 1), (66, .invokevirtual 42, 3), (69, .istore_n 1, 1), (70, .goto 61, 3), (73, .aload_n 0, 1), (74, .iconst 1, 1), (75, .invokevirtual 42, 3), (78, .istore_n 1, 1), (79, .goto 52, 3), (82, .aload_n 0, 1), (83, .invokevirtual 46, 3), (86, .istore_n 1, 1), (87, .goto 44, 3), (90, .aload_n 0, 1), (91, .invokevirtual 49, 3), (94, .istore_n 1, 1), (95, .goto 36, 3), (98, .aload_n 0, 1), (99, .invokevirtual 52, 3), (102, .istore_n 1, 1), (103, .goto 28, 3), (106, .aload_n 0, 1), (107, .invokevirtual 55, 3), (110, .istore_n 1, 1), (111, .goto 20, 3), (114, .aload_n 0, 1), (115, .invokevirtual 58, 3), (118, .istore_n 1, 1), (119, .goto 12, 3), (122, .aload_n 0, 1), (123, .getfield 9, 3), (126, .iconst 1, 1), (127, .invokevirtual 61, 3), (130, .istore_n 1, 1), (131, .iload_n 1, 1), (132, .ifCond .eq 19, 3), (135, .aload_n 0, 1), (136, .getfield 9, 3), (139, .bipush 59, 2), (141, .invokevirtual 64, 3), (144, .ifCond .eq 7, 3), (147, .iconst 1, 1), (148, .goto 4, 3), (151, .iconst 0, 1), (152, .ireturn, 1)]
def gC38 : List (Nat × Instr × Nat) := [(0, .aload_n 0, 1), (1, .getfield 15, 3), (4, .getfield 67, 3), (7, .bipush 8, 2), (9, .if_icmp .lt 12, 3), (12, .aload_n 0, 1), (13, .getfield 9, 3), (16, .iconst 4, 1), (17, .invokevirtual 61, 3), (20, .ireturn, 1), (21, .aload_n 0, 1), (22, .getfield 9, 3), (25, .invokevirtual 72, 3), (28, .aload_n 0, 1), (29, .getfield 9, 3), (32, .getfield 75, 3), (35, .iconst 2, 1), (36, .if_icmp .eq 12, 3), (39, .aload_n 0, 1), (40, .getfield 9, 3), (43, .iconst 1, 1), (44, .invokevirtual 61, 3), (47, .ireturn, 1), (48, .aload_n 0, 1), (49, .getfield 9, 3), (52, .invokevirtual 78, 3), (55, .istore_n 1, 1), (56, .iload_n 1, 1), (57, .bipush 8, 2), (59, .if_icmp .gt 24, 3), (62, .aload_n 0, 1), (63, .getfield 15, 3), (66, .getfield 67, 3), (69, .ifCond .le 23, 3), (72, .iload_n 1, 1), (73, .aload_n 0, 1), (74, .getfield 15, 3), (77, .getfield 82, 3), (80, .if_icmp .eq 12, 3), (83, .aload_n 0, 1), (84, .getfield 9, 3), (87, .iconst 2, 1), (88, .invokevirtual 61, 3), (91, .ireturn, 1), (92, .aload_n 0, 1), (93, .getfield 15, 3), (96, .iload_n 1, 1), (97, .putfield 82, 3), (100, .iconst 0, 1), (101, .istore_n 2, 1), (102, .iload_n 2, 1), (103, .iload_n 1, 1), (104, .if_icmp .ge 73, 3), (107, .aload_n 0, 1), (108, .getfield 9, 3), (111, .iload_n 2, 1), (112, .invokevirtual 85, 3), (115, .istore_n 3, 1), (116, .iload_n 3, 1), (117, .bipush 120, 2), (119, .if_icmp .eq 19, 3), (122, .iload_n 3, 1), (123, .invokestatic 89, 3), (126, .ifCond .ne 12, 3), (129, .aload_n 0, 1), (130, .getfield 9, 3), (133, .iconst 2, 1), (134, .invokevirtual 61, 3), (137, .ireturn, 1), (138, .aload_n 0, 1), (139, .getfield 15, 3), (142, .getfield 92, 3), (145, .aload_n 0, 1), (146, .getfield 15, 3), (149, .getfield 67, 3), (152, .iload_n 1, 1), (153, .imul, 1), (154, .iload_n 2, 1), (155, .iadd, 1), (156, .iload_n 3, 1), (157, .bipush 120, 2), (159, .if_icmp .ne 7, 3), (162, .iconst (-1), 1), (163, .goto 7, 3), (166, .iload_n 3, 1), (167, .bipush 97, 2), (169, .isub, 1), (170, .iastore, 1), (171, .iinc 2 1, 3), (174, .goto (-72), 3), (177, .aload_n 0, 1), (178, .getfield 15, 3), (181, .dup, 1), (182, .getfield 67, 3), (185, .iconst 1, 1), (186, .iadd, 1), (187, .putfield 67, 3), (190, .aload_n 0, 1), (191, .getfield 9, 3), (194, .invokevirtual 72, 3), (197, .iconst 1, 1), (198, .ireturn, 1)]
def gC39 : List (Nat × Instr × Nat) := [(0, .iload_n 0, 1), (1, .bipush 97, 2), (3, .if_icmp .lt 13, 3), (6, .iload_n 0, 1), (7, .bipush 103, 2), (9, .if_icmp .ge 7, 3), (12, .iconst 1, 1), (13, .goto 4, 3), (16, .iconst 0, 1), (17, .ireturn, 1)]
def gC40 : List (Nat × Instr × Nat) := [(0, .aload_n 0, 1), (1, .getfield 9, 3), (4, .invokevirtual 72, 3), (7, .aload_n 0, 1), (8, .getfield 9, 3), (11, .getfield 75, 3), (14, .iconst 2, 1), (15, .if_icmp .eq 12, 3), (18, .aload_n 0, 1), (19, .getfield 9, 3), (22, .iconst 1, 1), (23, .invokevirtual 61, 3), (26, .ireturn, 1), (27, .aload_n 0, 1), (28, .getfield 9, 3), (31, .invokevirtual 78, 3), (34, .iconst 1, 1), (35, .if_icmp .ne 17, 3), (38, .aload_n 0, 1), (39, .getfield 9, 3), (42, .iconst 0, 1), (43, .invokevirtual 85, 3), (46, .invokestatic 89, 3), (49, .ifCond .ne 12, 3), (52, .aload_n 0, 1), (53, .getfield 9, 3), (56, .iconst 2, 1), (57, .invokevirtual 61, 3), (60, .ireturn, 1), (61, .iconst 2, 1), (62, .aload_n 0, 1), (63, .getfield 9, 3), (66, .iconst 0, 1), (67, .invokevirtual 85, 3), (70, .bipush 97, 2), (72, .isub, 1), (73, .imul, 1), (74, .iload_n 1, 1), (75, .iadd, 1), (76, .istore_n 2, 1), (77, .aload_n 0, 1), (78, .getfield 15, 3), (81, .getfield 96, 3), (84, .iload_n 2, 1), (85, .iaload, 1), (86, .iconst (-1), 1), (87, .if_icmp .eq 12, 3), (90, .aload_n 0, 1), (91, .getfield 9, 3), (94, .iconst 3, 1), (95, .invokevirtual 61, 3), (98, .ireturn, 1), (99, .aload_n 0, 1), (100, .getfield 9, 3), (103, .invokevirtual 72, 3), (106, .aload_n 0, 1), (107, .iconst 0, 1), (108, .putfield 99, 3), (111, .aload_n 0, 1), (112, .iload_n 2, 1), (113, .bipush 20, 2), (115, .imul, 1), (116, .iconst 1, 1), (117, .invokevirtual 102, 3), (120, .ifCond .ne 5, 3), (123, .iconst 0, 1), (124, .ireturn, 1), (125, .aload_n 0, 1), (126, .getfield 15, 3), (129, .getfield 96, 3), (132, .iload_n 2, 1), (133, .aload_n 0, 1), (134, .getfield 99, 3), (137, .iastore, 1), (138, .iconst 1, 1), (139, .ireturn, 1)]
def gC41 : List (Nat × Instr × Nat) := [(0, .aload_n 0, 1), (1, .iload_n 1, 1), (2, .iconst 0, 1), (3, .iload_n 2, 1), (4, .invokevirtual 106, 3), (7, .ifCond .ne 5, 3), (10, .iconst 0, 1), (11, .ireturn, 1), (12, .iconst 0, 1), (13, .istore_n 3, 1), (14, .iload_n 3, 1), (15, .bipush 20, 2), (17, .if_icmp .ge 48, 3), (20, .aload_n 0, 1), (21, .getfield 9, 3), (24, .ldc 110, 2), (26, .invokevirtual 32, 3), (29, .istore 4, 2), (31, .iload 4, 2), (33, .iconst (-1), 1), (34, .if_icmp .ne 5, 3), (37, .iconst 1, 1), (38, .ireturn, 1), (39, .aload_n 0, 1), (40, .getfield 9, 3), (43, .invokevirtual 72, 3), (46, .aload_n 0, 1), (47, .iload_n 1, 1), (48, .iload 4, 2), (50, .iload_n 2, 1), (51, .invokevirtual 106, 3), (54, .ifCond .ne 5, 3), (57, .iconst 0, 1), (58, .ireturn, 1), (59, .iinc 3 1, 3), (62, .goto (-48), 3), (65, .iconst 1, 1), (66, .ireturn, 1)]
def gC42 : List (Nat × Instr × Nat) := [(0, .aload_n 0, 1), (1, .getfield 9, 3), (4, .getfield 75, 3), (7, .bipush 40, 2), (9, .if_icmp .ne 8, 3), (12, .bipush 9, 2), (14, .goto 12, 3), (17, .aload_n 0, 1), (18, .getfield 9, 3), (21, .ldc 112, 2), (23, .invokevirtual 32, 3), (26, .istore 4, 2), (28, .iload 4, 2), (30, .iconst (-1), 1), (31, .if_icmp .ne 12, 3), (34, .aload_n 0, 1), (35, .getfield 9, 3), (38, .iconst 1, 1), (39, .invokevirtual 61, 3), (42, .ireturn, 1), (43, .aload_n 0, 1), (44, .getfield 99, 3), (47, .bipush 20, 2), (49, .if_icmp .ge 9, 3), (52, .iload_n 3, 1), (53, .bipush 8, 2), (55, .if_icmp .le 12, 3), (58, .aload_n 0, 1), (59, .getfield 9, 3), (62, .iconst 4, 1), (63, .invokevirtual 61, 3), (66, .ireturn, 1), (67, .aload_n 0, 1), (68, .getfield 99, 3), (71, .istore 5, 2), (73, .aload_n 0, 1), (74, .dup, 1), (75, .getfield 99, 3), (78, .iconst 1, 1), (79, .iadd, 1), (80, .putfield 99, 3), (83, .aload_n 0, 1), (84, .getfield 9, 3), (87, .invokevirtual 72, 3), (90, .iload_n 2, 1), (91, .bipush 18, 2), (93, .ishl, 1), (94, .iload 4, 2), (96, .bipush 14, 2), (98, .ishl, 1), (99, .ior, 1), (100, .istore 6, 2), (102, .iload 4, 2), (104, .bipush 9, 2), (106, .if_icmp .ne 28, 3), (109, .aload_n 0, 1), (110, .iload_n 1, 1), (111, .iload_n 3, 1), (112, .iconst 1, 1), (113, .iadd, 1), (114, .invokevirtual 102, 3), (117, .ifCond .eq 15, 3), (120, .aload_n 0, 1), (121, .getfield 9, 3), (124, .bipush 41, 2), (126, .invokevirtual 64, 3), (129, .ifCond .ne 59, 3), (132, .iconst 0, 1), (133, .ireturn, 1), (134, .iload 4, 2), (136, .bipush 8, 2), (138, .if_icmp .ne 17, 3), (141, .aload_n 0, 1), (142, .iload_n 1, 1), (143, .iconst 0, 1), (144, .iload_n 3, 1), (145, .iconst 1, 1), (146, .iadd, 1), (147, .invokevirtual 106, 3), (150, .ifCond .ne 38, 3), (153, .iconst 0, 1), (154, .ireturn, 1), (155, .aload_n 0, 1), (156, .iload 4, 2), (158, .bipush 6, 2), (160, .if_icmp .ge 7, 3), (163, .iconst 1, 1), (164, .goto 4, 3), (167, .iconst 0, 1), (168, .invokevirtual 114, 3), (171, .ifCond .eq 15, 3), (174, .iload 6, 2), (176, .aload_n 0, 1), (177, .getfield 118, 3), (180, .ior, 1), (181, .istore 6, 2), (183, .goto 5, 3), (186, .iconst 0, 1), (187, .ireturn, 1), (188, .aload_n 0, 1), (189, .getfield 15, 3), (192, .getfield 121, 3), (195, .iload_n 1, 1), (196, .iload 5, 2), (198, .iadd, 1), (199, .iload 6, 2), (201, .aload_n 0, 1), (202, .getfield 99, 3), (205, .iload 5, 2), (207, .isub, 1), (208, .bipush 19, 2), (210, .ishl, 1), (211, .ior, 1), (212, .iastore, 1), (213, .iconst 1, 1), (214, .ireturn, 1)]
def gC43 : List (Nat × Instr × Nat) := [(0, .aload_n 0, 1), (1, .iconst 0, 1), (2, .putfield 118, 3), (5, .iload_n 1, 1), (6, .ifCond .eq 31, 3), (9, .aload_n 0, 1), (10, .getfield 9, 3), (13, .iconst 1, 1), (14, .iconst 2, 1), (15, .invokevirtual 123, 3), (18, .ifCond .ne 5, 3), (21, .iconst 0, 1), (22, .ireturn, 1), (23, .aload_n 0, 1), (24, .aload_n 0, 1), (25, .getfield 9, 3), (28, .getfield 126, 3), (31, .bipush 12, 2), (33, .ishl, 1), (34, .putfield 118, 3), (37, .aload_n 0, 1), (38, .getfield 9, 3), (41, .getfield 75, 3), (44, .bipush 60, 2), (46, .if_icmp .lt 15, 3), (49, .aload_n 0, 1), (50, .getfield 9, 3), (53, .getfield 75, 3), (56, .bipush 62, 2), (58, .if_icmp .le 12, 3), (61, .aload_n 0, 1), (62, .getfield 9, 3), (65, .iconst 1, 1), (66, .invokevirtual 61, 3), (69, .ireturn, 1), (70, .aload_n 0, 1), (71, .dup, 1), (72, .getfield 118, 3), (75, .aload_n 0, 1), (76, .getfield 9, 3), (79, .getfield 75, 3), (82, .bipush 60, 2), (84, .isub, 1), (85, .bipush 10, 2), (87, .ishl, 1), (88, .ior, 1), (89, .putfield 118, 3), (92, .aload_n 0, 1), (93, .getfield 9, 3), (96, .invokevirtual 72, 3), (99, .aload_n 0, 1), (100, .getfield 9, 3), (103, .iconst 0, 1), (104, .sipush 999, 3), (107, .invokevirtual 123, 3), (110, .ifCond .ne 5, 3), (113, .iconst 0, 1), (114, .ireturn, 1), (115, .aload_n 0, 1), (116, .dup, 1), (117, .getfield 118, 3), (120, .aload_n 0, 1), (121, .getfield 9, 3), (124, .getfield 126, 3), (127, .ior, 1), (128, .putfield 118, 3), (131, .iconst 1, 1), (132, .ireturn, 1)]
def gC44 : List (Nat × Instr × Nat) := [(0, .aload_n 0, 1), (1, .getfield 9, 3), (4, .invokevirtual 72, 3), (7, .aload_n 0, 1), (8, .getfield 9, 3), (11, .iconst 0, 1), (12, .aload_n 0, 1), (13, .getfield 15, 3), (16, .getfield 67, 3), (19, .iconst 1, 1), (20, .isub, 1), (21, .invokevirtual 129, 3), (24, .ifCond .ne 5, 3), (27, .iconst 0, 1), (28, .ireturn, 1), (29, .aload_n 0, 1), (30, .getfield 9, 3), (33, .getfield 132, 3), (36, .istore_n 1, 1), (37, .aload_n 0, 1), (38, .getfield 19, 3), (41, .iload_n 1, 1), (42, .iushr, 1), (43, .iconst 1, 1), (44, .iand, 1), (45, .ifCond .eq 12, 3), (48, .aload_n 0, 1), (49, .getfield 9, 3), (52, .iconst 3, 1), (53, .invokevirtual 61, 3), (56, .ireturn, 1), (57, .aload_n 0, 1), (58, .dup, 1), (59, .getfield 19, 3), (62, .iconst 1, 1), (63, .iload_n 1, 1), (64, .ishl, 1), (65, .ior, 1), (66, .putfield 19, 3), (69, .aload_n 0, 1), (70, .getfield 9, 3), (73, .invokevirtual 72, 3), (76, .aload_n 0, 1), (77, .getfield 9, 3), (80, .iconst 0, 1), (81, .sipush 999, 3), (84, .invokevirtual 123, 3), (87, .ifCond .ne 5, 3), (90, .iconst 0, 1), (91, .ireturn, 1), (92, .aload_n 0, 1), (93, .getfield 15, 3), (96, .getfield 135, 3), (99, .iload_n 1, 1), (100, .aload_n 0, 1), (101, .getfield 9, 3), (104, .getfield 126, 3), (107, .iastore, 1), (108, .iconst 1, 1), (109, .ireturn, 1)]
def gC45 : List (Nat × Instr × Nat) := [(0, .aload_n 0, 1), (1, .getfield 9, 3), (4, .invokevirtual 72, 3), (7, .aload_n 0, 1), (8, .getfield 9, 3), (11, .iconst 0, 1), (12, .aload_n 0, 1), (13, .getfield 15, 3), (16, .getfield 67, 3), (19, .iconst 1, 1), (20, .isub, 1), (21, .invokevirtual 129, 3), (24, .ifCond .ne 5, 3), (27, .iconst 0, 1), (28, .ireturn, 1), (29, .aload_n 0, 1), (30, .getfield 9, 3), (33, .getfield 132, 3), (36, .istore_n 1, 1), (37, .aload_n 0, 1), (38, .getfield 15, 3), (41, .getfield 138, 3), (44, .iload_n 1, 1), (45, .iaload, 1), (46, .iconst (-1), 1), (47, .if_icmp .eq 12, 3), (50, .aload_n 0, 1), (51, .getfield 9, 3), (54, .iconst 3, 1), (55, .invokevirtual 61, 3), (58, .ireturn, 1), (59, .aload_n 0, 1), (60, .getfield 9, 3), (63, .invokevirtual 72, 3), (66, .aload_n 0, 1), (67, .getfield 9, 3), (70, .iconst 0, 1), (71, .sipush 600, 3), (74, .invokevirtual 123, 3), (77, .ifCond .ne 5, 3), (80, .iconst 0, 1), (81, .ireturn, 1), (82, .aload_n 0, 1), (83, .getfield 15, 3), (86, .getfield 138, 3), (89, .iload_n 1, 1), (90, .aload_n 0, 1), (91, .getfield 9, 3), (94, .getfield 126, 3), (97, .iastore, 1), (98, .iconst 1, 1), (99, .ireturn, 1)]
def gC46 : List (Nat × Instr × Nat) := [(0, .aload_n 0, 1), (1, .getfield 23, 3), (4, .ifCond .eq 12, 3), (7, .aload_n 0, 1), (8, .getfield 9, 3), (11, .iconst 3, 1), (12, .invokevirtual 61, 3), (15, .ireturn, 1), (16, .aload_n 0, 1), (17, .iconst 1, 1), (18, .putfield 23, 3), (21, .aload_n 0, 1), (22, .getfield 9, 3), (25, .invokevirtual 72, 3), (28, .aload_n 0, 1), (29, .getfield 9, 3), (32, .iconst 1, 1), (33, .bipush 64, 2), (35, .invokevirtual 123, 3), (38, .ifCond .ne 5, 3), (41, .iconst 0, 1), (42, .ireturn, 1), (43, .aload_n 0, 1), (44, .getfield 15, 3), (47, .aload_n 0, 1), (48, .getfield 9, 3), (51, .getfield 126, 3), (54, .putfield 141, 3), (57, .iconst 1, 1), (58, .ireturn, 1)]
def gC47 : List (Nat × Instr × Nat) := [(0, .aload_n 0, 1), (1, .getfield 27, 3), (4, .ifCond .eq 12, 3), (7, .aload_n 0, 1), (8, .getfield 9, 3), (11, .iconst 3, 1), (12, .invokevirtual 61, 3), (15, .ireturn, 1), (16, .aload_n 0, 1), (17, .iconst 1, 1), (18, .putfield 27, 3), (21, .aload_n 0, 1), (22, .getfield 9, 3), (25, .invokevirtual 72, 3), (28, .aload_n 0, 1), (29, .getfield 9, 3), (32, .iconst 0, 1), (33, .sipush 600, 3), (36, .invokevirtual 123, 3), (39, .ifCond .ne 5, 3), (42, .iconst 0, 1), (43, .ireturn, 1), (44, .aload_n 0, 1), (45, .getfield 15, 3), (48, .aload_n 0, 1), (49, .getfield 9, 3), (52, .getfield 126, 3), (55, .putfield 144, 3), (58, .iconst 1, 1), (59, .ireturn, 1)]
def gC48 : List (Nat × Instr × Nat) := [(0, .aload_n 0, 1), (1, .getfield 15, 3), (4, .getfield 147, 3), (7, .ifCond .eq 12, 3), (10, .aload_n 0, 1), (11, .getfield 9, 3), (14, .iconst 3, 1), (15, .invokevirtual 61, 3), (18, .ireturn, 1), (19, .aload_n 0, 1), (20, .getfield 15, 3), (23, .iconst 1, 1), (24, .putfield 147, 3), (27, .aload_n 0, 1), (28, .getfield 9, 3), (31, .invokevirtual 72, 3), (34, .iconst 1, 1), (35, .ireturn, 1)]
def gC49 : List (Nat × Instr × Nat) := [(0, .aload_n 0, 1), (1, .invokespecial 3, 3), (4, .aload_n 0, 1), (5, .aload_n 1, 1), (6, .putfield 9, 3), (9, .aload_n 0, 1), (10, .aload_n 1, 1), (11, .getfield 15, 3), (14, .putfield 21, 3), (17, .return_, 1)]
def gC50 : List (Nat × Instr × Nat) := [(0, .aload_n 0, 1), (1, .aload_n 1, 1), (2, .getfield 22, 3), (5, .iload_n 2, 1), (6, .laload, 1), (7, .putfield 28, 3), (10, .aload_n 0, 1), (11, .aload_n 1, 1), (12, .getfield 31, 3), (15, .iload_n 2, 1), (16, .laload, 1), (17, .putfield 34, 3), (20, .aload_n 0, 1), (21, .aload_n 1, 1), (22, .getfield 36, 3), (25, .iload_n 2, 1), (26, .laload, 1), (27, .putfield 39, 3), (30, .aload_n 0, 1), (31, .aload_n 1, 1), (32, .getfield 41, 3), (35, .iload_n 2, 1), (36, .laload, 1), (37, .putfield 44, 3), (40, .return_, 1)]
def gC51 : List (Nat × Instr × Nat) := [(0, .aload_n 0, 1), (1, .iload_n 1, 1), (2, .bipush 20, 2), (4, .imul, 1), (5, .aload_n 0, 1), (6, .getfield 21, 3), (9, .getfield 46, 3), (12, .iload_n 1, 1), (13, .iaload, 1), (14, .lconst 1, 1), (15, .iload_n 2, 1), (16, .lshl, 1), (17, .iconst 1, 1), (18, .invokevirtual 52, 3), (21, .lconst 0, 1), (22, .lcmp, 1), (23, .ifCond .eq 7, 3), (26, .iconst 1, 1), (27, .goto 4, 3), (30, .iconst 0, 1), (31, .ireturn, 1)]
def gC52 : List (Nat × Instr × Nat) := [(0, .aload_n 0, 1), (1, .lload_n 1, 1), (2, .putfield 56, 3), (5, .aload_n 0, 1), (6, .lload_n 3, 1), (7, .putfield 59, 3), (10, .aload_n 0, 1), (11, .iconst 0, 1), (12, .putfield 62, 3), (15, .aload_n 0, 1), (16, .iconst 0, 1), (17, .putfield 66, 3), (20, .aload_n 0, 1), (21, .lconst 0, 1), (22, .putfield 69, 3), (25, .aload_n 0, 1), (26, .iconst 0, 1), (27, .putfield 72, 3), (30, .aload_n 0, 1), (31, .aload_n 0, 1), (32, .getfield 9, 3), (35, .invokevirtual 76, 3), (38, .putfield 80, 3), (41, .aload_n 0, 1), (42, .getfield 21, 3), (45, .getfield 82, 3), (48, .sipush 600, 3), (51, .if_icmp .ge 21, 3), (54, .aload_n 0, 1), (55, .aload_n 0, 1), (56, .getfield 80, 3), (59, .aload_n 0, 1), (60, .getfield 21, 3), (63, .getfield 82, 3), (66, .invokestatic 85, 3), (69, .putfield 80, 3), (72, .aload_n 0, 1), (73, .invokevirtual 91, 3), (76, .pop, 1), (77, .aload_n 0, 1), (78, .invokevirtual 95, 3), (81, .aload_n 0, 1), (82, .aload_n 0, 1), (83, .invokevirtual 98, 3), (86, .putfield 28, 3), (89, .aload_n 0, 1), (90, .aload_n 0, 1), (91, .getfield 28, 3), (94, .putfield 34, 3), (97, .aload_n 0, 1), (98, .lconst 0, 1), (99, .putfield 39, 3), (102, .aload_n 0, 1), (103, .lconst 0, 1), (104, .putfield 44, 3), (107, .return_, 1)]
def gC53 : List (Nat × Instr × Nat) := [(0, .aload_n 0, 1), (1, .getfield 62, 3), (4, .istore_n 2, 1), (5, .iload_n 2, 1), (6, .iload_n 1, 1), (7, .if_icmp .ge 20, 3), (10, .aload_n 0, 1), (11, .getfield 72, 3), (14, .ifCond .ne 13, 3), (17, .aload_n 0, 1), (18, .invokevirtual 102, 3), (21, .iinc 2 1, 3), (24, .goto (-19), 3), (27, .return_, 1)]
def gC54 : List (Nat × Instr × Nat) := [(0, .aload_n 0, 1), (1, .lload_n 1, 1), (2, .lload_n 3, 1), (3, .invokevirtual 105, 3), (6, .aload_n 0, 1), (7, .getfield 34, 3), (10, .invokestatic 109, 3), (13, .istore 6, 2), (15, .iconst 1, 1), (16, .istore 7, 2), (18, .iload 7, 2), (20, .bipush 60, 2), (22, .if_icmp .gt 41, 3), (25, .iload 6, 2), (27, .iload 5, 2), (29, .if_icmp .ge 34, 3), (32, .aload_n 0, 1), (33, .getfield 72, 3), (36, .ifCond .ne 27, 3), (39, .aload_n 0, 1), (40, .invokevirtual 102, 3), (43, .iload 6, 2), (45, .aload_n 0, 1), (46, .getfield 34, 3), (49, .invokestatic 109, 3), (52, .invokestatic 85, 3), (55, .istore 6, 2), (57, .iinc 7 1, 3), (60, .goto (-42), 3), (63, .iload 6, 2), (65, .ireturn, 1)]
def gC55 : List (Nat × Instr × Nat) := [(0, .aload_n 0, 1), (1, .dup, 1), (2, .getfield 62, 3), (5, .iconst 1, 1), (6, .iadd, 1), (7, .putfield 62, 3), (10, .aload_n 0, 1), (11, .invokevirtual 91, 3), (14, .istore_n 1, 1), (15, .aload_n 0, 1), (16, .invokevirtual 95, 3), (19, .aload_n 0, 1), (20, .invokevirtual 98, 3), (23, .lstore_n 2, 1), (24, .iload_n 1, 1), (25, .ifCond .eq 13, 3), (28, .aload_n 0, 1), (29, .getfield 21, 3), (32, .getfield 115, 3), (35, .goto 14, 3), (38, .lload_n 2, 1), (39, .aload_n 0, 1), (40, .getfield 59, 3), (43, .lor, 1), (44, .aload_n 0, 1), (45, .getfield 69, 3), (48, .lor, 1), (49, .lstore 4, 2), (51, .aload_n 0, 1), (52, .getfield 28, 3), (55, .lstore 6, 2), (57, .aload_n 0, 1), (58, .getfield 34, 3), (61, .lstore 8, 2), (63, .aload_n 0, 1), (64, .getfield 21, 3), (67, .getfield 118, 3), (70, .ifCond .eq 43, 3), (73, .iconst 0, 1), (74, .istore 10, 2), (76, .iload 10, 2), (78, .aload_n 0, 1), (79, .getfield 21, 3), (82, .getfield 121, 3), (85, .if_icmp .ge 25, 3), (88, .aload_n 0, 1), (89, .aload_n 0, 1), (90, .getfield 21, 3), (93, .iload 10, 2), (95, .invokevirtual 124, 3), (98, .lload_n 2, 1), (99, .lload 4, 2), (101, .invokevirtual 128, 3), (104, .iinc 10 1, 3), (107, .goto (-31), 3), (110, .goto 17, 3), (113, .aload_n 0, 1), (114, .aload_n 0, 1), (115, .getfield 21, 3), (118, .getfield 115, 3), (121, .lload_n 2, 1), (122, .lload 4, 2), (124, .invokevirtual 128, 3), (127, .aload_n 0, 1), (128, .aload_n 0, 1), (129, .getfield 21, 3), (132, .getfield 115, 3), (135, .aload_n 0, 1), (136, .getfield 28, 3), (139, .lload 6, 2), (141, .lxor, 1), (142, .ldc2_w 132, 3), (145, .lxor, 1), (146, .land, 1), (147, .aload_n 0, 1), (148, .getfield 34, 3), (151, .lload 8, 2), (153, .lxor, 1), (154, .ldc2_w 132, 3), (157, .lxor, 1), (158, .land, 1), (159, .invokevirtual 134, 3), (162, .return_, 1)]
def gC56 : List (Nat × Instr × Nat) := [(0, .iconst 0, 1), (1, .istore_n 1, 1), (2, .aload_n 0, 1), (3, .getfield 66, 3), (6, .aload_n 0, 1), (7, .getfield 9, 3), (10, .getfield 138, 3), (13, .if_icmp .ge 123, 3), (16, .aload_n 0, 1), (17, .getfield 66, 3), (20, .bipush 30, 2), (22, .if_icmp .ge 114, 3), (25, .aload_n 0, 1), (26, .getfield 9, 3), (29, .getfield 141, 3), (32, .aload_n 0, 1), (33, .getfield 66, 3), (36, .iaload, 1), (37, .aload_n 0, 1), (38, .getfield 62, 3), (41, .if_icmp .gt 95, 3), (44, .aload_n 0, 1), (45, .getfield 9, 3), (48, .getfield 144, 3), (51, .aload_n 0, 1), (52, .getfield 66, 3), (55, .iaload, 1), (56, .istore_n 2, 1), (57, .iload_n 2, 1), (58, .iconst 3, 1), (59, .if_icmp .ne 8, 3), (62, .iconst 1, 1), (63, .istore_n 1, 1), (64, .goto 59, 3), (67, .aload_n 0, 1), (68, .getfield 9, 3), (71, .getfield 147, 3), (74, .aload_n 0, 1), (75, .getfield 66, 3), (78, .iaload, 1), (79, .istore_n 3, 1), (80, .aload_n 0, 1), (81, .aload_n 0, 1), (82, .getfield 56, 3), (85, .iload_n 3, 1), (86, .iload_n 2, 1), (87, .ifCond .ne 7, 3), (90, .iconst 1, 1), (91, .goto 4, 3), (94, .iconst 0, 1), (95, .invokestatic 150, 3), (98, .putfield 56, 3), (101, .aload_n 0, 1), (102, .aload_n 0, 1), (103, .getfield 59, 3), (106, .iload_n 3, 1), (107, .iload_n 2, 1), (108, .iconst 1, 1), (109, .if_icmp .ne 7, 3), (112, .iconst 1, 1), (113, .goto 4, 3), (116, .iconst 0, 1), (117, .invokestatic 150, 3), (120, .putfield 59, 3), (123, .aload_n 0, 1), (124, .dup, 1), (125, .getfield 66, 3), (128, .iconst 1, 1), (129, .iadd, 1), (130, .putfield 66, 3), (133, .goto (-131), 3), (136, .iload_n 1, 1), (137, .ireturn, 1)]
def gC57 : List (Nat × Instr × Nat) := [(0, .iconst 0, 1), (1, .istore_n 1, 1), (2, .iload_n 1, 1), (3, .aload_n 0, 1), (4, .getfield 21, 3), (7, .getfield 121, 3), (10, .if_icmp .ge 42, 3), (13, .aload_n 0, 1), (14, .getfield 21, 3), (17, .getfield 154, 3), (20, .iload_n 1, 1), (21, .iaload, 1), (22, .aload_n 0, 1), (23, .getfield 62, 3), (26, .if_icmp .ne 20, 3), (29, .aload_n 0, 1), (30, .dup, 1), (31, .getfield 69, 3), (34, .aload_n 0, 1), (35, .getfield 21, 3), (38, .iload_n 1, 1), (39, .invokevirtual 124, 3), (42, .lor, 1), (43, .putfield 69, 3), (46, .iinc 1 1, 3), (49, .goto (-47), 3), (52, .return_, 1)]
def gC58 : List (Nat × Instr × Nat) := [(0, .aload_n 0, 1), (1, .getfield 62, 3), (4, .aload_n 0, 1), (5, .getfield 21, 3), (8, .getfield 82, 3), (11, .if_icmp .gt 28, 3), (14, .aload_n 0, 1), (15, .getfield 56, 3), (18, .aload_n 0, 1), (19, .getfield 59, 3), (22, .ldc2_w 132, 3), (25, .lxor, 1), (26, .land, 1), (27, .aload_n 0, 1), (28, .getfield 69, 3), (31, .ldc2_w 132, 3), (34, .lxor, 1), (35, .land, 1), (36, .goto 4, 3), (39, .lconst 0, 1), (40, .lreturn, 1)]
def gC59 : List (Nat × Instr × Nat) := [(0, .lload_n 1, 1), (1, .lload 5, 2), (3, .ldc2_w 132, 3), (6, .lxor, 1), (7, .land, 1), (8, .aload_n 0, 1), (9, .getfield 21, 3), (12, .getfield 115, 3), (15, .land, 1), (16, .lstore 7, 2), (18, .lconst 0, 1), (19, .lstore 9, 2), (21, .lconst 0, 1), (22, .lstore 11, 2), (24, .iconst 0, 1), (25, .istore 13, 2), (27, .iload 13, 2), (29, .bipush 6, 2), (31, .if_icmp .ge 110, 3), (34, .lload 7, 2), (36, .aload_n 0, 1), (37, .getfield 21, 3), (40, .getfield 157, 3), (43, .iload 13, 2), (45, .laload, 1), (46, .land, 1), (47, .lstore 14, 2), (49, .lload 14, 2), (51, .lconst 0, 1), (52, .lcmp, 1), (53, .ifCond .eq 82, 3), (56, .iconst 2, 1), (57, .iload 13, 2), (59, .imul, 1), (60, .istore 16, 2), (62, .aload_n 0, 1), (63, .iload 16, 2), (65, .bipush 20, 2), (67, .imul, 1), (68, .aload_n 0, 1), (69, .getfield 21, 3), (72, .getfield 46, 3), (75, .iload 16, 2), (77, .iaload, 1), (78, .lload 14, 2), (80, .iconst 1, 1), (81, .invokevirtual 52, 3), (84, .lstore 17, 2), (86, .iinc 16 1, 3), (89, .lload 9, 2), (91, .lload 17, 2), (93, .lor, 1), (94, .lstore 9, 2), (96, .lload 11, 2), (98, .aload_n 0, 1), (99, .iload 16, 2), (101, .bipush 20, 2), (103, .imul, 1), (104, .aload_n 0, 1), (105, .getfield 21, 3), (108, .getfield 46, 3), (111, .iload 16, 2), (113, .iaload, 1), (114, .lload 14, 2), (116, .lload 17, 2), (118, .ldc2_w 132, 3), (121, .lxor, 1), (122, .land, 1), (123, .aload_n 0, 1), (124, .getfield 28, 3), (127, .land, 1), (128, .iconst 1, 1), (129, .invokevirtual 52, 3), (132, .lor, 1), (133, .lstore 11, 2), (135, .iinc 13 1, 3), (138, .goto (-111), 3), (141, .aload_n 0, 1), (142, .getfield 28, 3), (145, .lload 9, 2), (147, .lor, 1), (148, .lload 11, 2), (150, .aload_n 0, 1), (151, .getfield 34, 3), (154, .ldc2_w 132, 3), (157, .lxor, 1), (158, .land, 1), (159, .ldc2_w 132, 3), (162, .lxor, 1), (163, .land, 1), (164, .lstore 13, 2), (166, .aload_n 0, 1), (167, .getfield 34, 3), (170, .lload 9, 2), (172, .aload_n 0, 1), (173, .getfield 28, 3), (176, .land, 1), (177, .lor, 1), (178, .lload 11, 2), (180, .ldc2_w 132, 3), (183, .lxor, 1), (184, .land, 1), (185, .lstore 15, 2), (187, .aload_n 0, 1), (188, .aload_n 0, 1), (189, .getfield 28, 3), (192, .lload_n 1, 1), (193, .ldc2_w 132, 3), (196, .lxor, 1), (197, .land, 1), (198, .lload 13, 2), (200, .lload 7, 2), (202, .land, 1), (203, .lor, 1), (204, .lload_n 3, 1), (205, .lload_n 1, 1), (206, .land, 1), (207, .lor, 1), (208, .putfield 28, 3), (211, .aload_n 0, 1), (212, .aload_n 0, 1), (213, .getfield 34, 3), (216, .lload_n 1, 1), (217, .ldc2_w 132, 3), (220, .lxor, 1), (221, .land, 1), (222, .lload 15, 2), (224, .lload 7, 2), (226, .land, 1), (227, .lor, 1), (228, .lload_n 3, 1), (229, .lload_n 1, 1), (230, .land, 1), (231, .lor, 1), (232, .putfield 34, 3), (235, .return_, 1)]
def gC60 : List (Nat × Instr × Nat) := [(0, .aload_n 0, 1), (1, .getfield 39, 3), (4, .ldc2_w 132, 3), (7, .lxor, 1), (8, .aload_n 0, 1), (9, .getfield 44, 3), (12, .lor, 1), (13, .lload_n 1, 1), (14, .land, 1), (15, .lstore_n 3, 1), (16, .aload_n 0, 1), (17, .getfield 44, 3), (20, .aload_n 0, 1), (21, .getfield 39, 3), (24, .lor, 1), (25, .lload_n 1, 1), (26, .land, 1), (27, .lstore 5, 2), (29, .lload_n 1, 1), (30, .aload_n 0, 1), (31, .getfield 21, 3), (34, .getfield 115, 3), (37, .lcmp, 1), (38, .ifCond .ne 26, 3), (41, .lload_n 3, 1), (42, .aload_n 0, 1), (43, .getfield 39, 3), (46, .lcmp, 1), (47, .ifCond .ne 17, 3), (50, .lload 5, 2), (52, .aload_n 0, 1), (53, .getfield 44, 3), (56, .lcmp, 1), (57, .ifCond .ne 7, 3), (60, .iconst 1, 1), (61, .goto 4, 3), (64, .iconst 0, 1), (65, .istore 7, 2), (67, .aload_n 0, 1), (68, .iload 7, 2), (70, .ifCond .eq 18, 3), (73, .aload_n 0, 1), (74, .getfield 62, 3), (77, .aload_n 0, 1), (78, .getfield 80, 3), (81, .if_icmp .le 7, 3), (84, .iconst 1, 1), (85, .goto 4, 3), (88, .iconst 0, 1), (89, .putfield 72, 3), (92, .aload_n 0, 1), (93, .lload_n 3, 1), (94, .putfield 39, 3), (97, .aload_n 0, 1), (98, .lload 5, 2), (100, .putfield 44, 3), (103, .return_, 1)]
def gC61 : List (Nat × Instr × Nat) := [(0, .lload_n 3, 1), (1, .lconst 0, 1), (2, .lcmp, 1), (3, .ifCond .eq 14, 3), (6, .iload_n 2, 1), (7, .ifCond .le 10, 3), (10, .iload 5, 2), (12, .bipush 8, 2), (14, .if_icmp .le 5, 3), (17, .lconst 0, 1), (18, .lreturn, 1), (19, .lconst 0, 1), (20, .lstore 6, 2), (22, .lload_n 3, 1), (23, .lstore 8, 2), (25, .iload_n 1, 1), (26, .istore 10, 2), (28, .iconst 0, 1), (29, .istore 11, 2), (31, .iload 11, 2), (33, .bipush 20, 2), (35, .if_icmp .ge 95, 3), (38, .iload 10, 2), (40, .iload_n 1, 1), (41, .iload_n 2, 1), (42, .iadd, 1), (43, .if_icmp .ge 87, 3), (46, .iload 10, 2), (48, .aload_n 0, 1), (49, .getfield 21, 3), (52, .getfield 160, 3), (55, .arraylength, 1), (56, .if_icmp .ge 74, 3), (59, .aload_n 0, 1), (60, .getfield 21, 3), (63, .getfield 160, 3), (66, .iload 10, 2), (68, .iaload, 1), (69, .bipush 18, 2), (71, .iushr, 1), (72, .iconst 1, 1), (73, .iand, 1), (74, .ifCond .eq 20, 3), (77, .lload 6, 2), (79, .lload 8, 2), (81, .lor, 1), (82, .lstore 6, 2), (84, .lload_n 3, 1), (85, .lload 6, 2), (87, .ldc2_w 132, 3), (90, .lxor, 1), (91, .land, 1), (92, .lstore 8, 2), (94, .aload_n 0, 1), (95, .iload 10, 2), (97, .lload 8, 2), (99, .iload 5, 2), (101, .invokevirtual 163, 3), (104, .lstore 8, 2), (106, .iload 10, 2), (108, .aload_n 0, 1), (109, .getfield 21, 3), (112, .getfield 160, 3), (115, .iload 10, 2), (117, .iaload, 1), (118, .bipush 19, 2), (120, .iushr, 1), (121, .iadd, 1), (122, .istore 10, 2), (124, .iinc 11 1, 3), (127, .goto (-96), 3), (130, .lload 6, 2), (132, .lload 8, 2), (134, .lor, 1), (135, .lreturn, 1)]
def gC62 : List (Nat × Instr × Nat) := [(0, .lload_n 2, 1), (1, .lconst 0, 1), (2, .lcmp, 1), (3, .ifCond .eq 26, 3), (6, .iload 4, 2), (8, .bipush 8, 2), (10, .if_icmp .gt 19, 3), (13, .iload_n 1, 1), (14, .ifCond .lt 15, 3), (17, .iload_n 1, 1), (18, .aload_n 0, 1), (19, .getfield 21, 3), (22, .getfield 160, 3), (25, .arraylength, 1), (26, .if_icmp .lt 5, 3), (29, .lconst 0, 1), (30, .lreturn, 1), (31, .aload_n 0, 1), (32, .getfield 21, 3), (35, .getfield 160, 3), (38, .iload_n 1, 1), (39, .iaload, 1), (40, .istore 5, 2), (42, .iload 5, 2), (44, .bipush 14, 2), (46, .iushr, 1), (47, .bipush 15, 2), (49, .iand, 1), (50, .istore 6, 2), (52, .iload 6, 2), (54, .bipush 8, 2), (56, .if_icmp .ne 22, 3), (59, .lload_n 2, 1), (60, .aload_n 0, 1), (61, .iload_n 1, 1), (62, .iconst 1, 1), (63, .iadd, 1), (64, .lload_n 2, 1), (65, .iload 4, 2), (67, .iconst 1, 1), (68, .iadd, 1), (69, .invokevirtual 163, 3), (72, .ldc2_w 132, 3), (75, .lxor, 1), (76, .land, 1), (77, .lreturn, 1), (78, .iload 6, 2), (80, .bipush 9, 2), (82, .if_icmp .ne 23, 3), (85, .aload_n 0, 1), (86, .iload_n 1, 1), (87, .iconst 1, 1), (88, .iadd, 1), (89, .iload 5, 2), (91, .bipush 19, 2), (93, .iushr, 1), (94, .iconst 1, 1), (95, .isub, 1), (96, .lload_n 2, 1), (97, .iload 4, 2), (99, .iconst 1, 1), (100, .iadd, 1), (101, .invokevirtual 52, 3), (104, .lreturn, 1), (105, .iload 5, 2), (107, .sipush 1023, 3), (110, .iand, 1), (111, .istore 7, 2), (113, .iload 5, 2), (115, .bipush 10, 2), (117, .iushr, 1), (118, .iconst 3, 1), (119, .iand, 1), (120, .istore 8, 2), (122, .iload 8, 2), (124, .ifCond .ne 7, 3), (127, .iconst 0, 1), (128, .goto 10, 3), (131, .iload 7, 2), (133, .iload 8, 2), (135, .iadd, 1), (136, .iconst 1, 1), (137, .isub, 1), (138, .istore 9, 2), (140, .iload 8, 2), (142, .ifCond .ne 10, 3), (145, .iload 7, 2), (147, .iconst 1, 1), (148, .isub, 1), (149, .goto 17, 3), (152, .iload 8, 2), (154, .iconst 1, 1), (155, .if_icmp .ne 8, 3), (158, .iload 7, 2), (160, .goto 6, 3), (163, .sipush 1023, 3), (166, .istore 10, 2), (168, .iload 6, 2), (170, .bipush 6, 2), (172, .if_icmp .ne 14, 3), (175, .lload_n 2, 1), (176, .aload_n 0, 1), (177, .iload 9, 2), (179, .iload 10, 2), (181, .invokevirtual 167, 3), (184, .land, 1), (185, .lreturn, 1), (186, .iload 6, 2), (188, .bipush 7, 2), (190, .if_icmp .ne 14, 3), (193, .lload_n 2, 1), (194, .aload_n 0, 1), (195, .iload 9, 2), (197, .iload 10, 2), (199, .invokevirtual 171, 3), (202, .land, 1), (203, .lreturn, 1), (204, .iload 5, 2), (206, .bipush 12, 2), (208, .iushr, 1), (209, .iconst 3, 1), (210, .iand, 1), (211, .iconst 1, 1), (212, .if_icmp .ne 10, 3), (215, .aload_n 0, 1), (216, .getfield 28, 3), (219, .goto 7, 3), (222, .aload_n 0, 1), (223, .getfield 34, 3), (226, .lstore 11, 2), (228, .lconst 0, 1), (229, .lstore 13, 2), (231, .lload_n 2, 1), (232, .lstore 15, 2), (234, .iconst 0, 1), (235, .istore 17, 2), (237, .iload 17, 2), (239, .bipush 64, 2), (241, .if_icmp .ge 85, 3), (244, .iload 6, 2), (246, .bipush 6, 2), (248, .if_icmp .ge 78, 3), (251, .lload 15, 2), (253, .lconst 0, 1), (254, .lcmp, 1), (255, .ifCond .eq 71, 3), (258, .lload 15, 2), (260, .lconst 1, 1), (261, .land, 1), (262, .lconst 0, 1), (263, .lcmp, 1), (264, .ifCond .eq 50, 3), (267, .aload_n 0, 1), (268, .getfield 21, 3), (271, .getfield 174, 3), (274, .iload 6, 2), (276, .bipush 64, 2), (278, .imul, 1), (279, .iload 17, 2), (281, .iadd, 1), (282, .laload, 1), (283, .lload 11, 2), (285, .land, 1), (286, .invokestatic 109, 3), (289, .istore 18, 2), (291, .iload 18, 2), (293, .iload 9, 2), (295, .if_icmp .lt 19, 3), (298, .iload 18, 2), (300, .iload 10, 2), (302, .if_icmp .gt 12, 3), (305, .lload 13, 2), (307, .lconst 1, 1), (308, .iload 17, 2), (310, .lshl, 1), (311, .lor, 1), (312, .lstore 13, 2), (314, .lload 15, 2), (316, .iconst 1, 1), (317, .lushr, 1), (318, .lstore 15, 2), (320, .iinc 17 1, 3), (323, .goto (-86), 3), (326, .lload 13, 2), (328, .lreturn, 1)]
def gC63 : List (Nat × Instr × Nat) := [(0, .iload_n 1, 1), (1, .ifCond .gt 18, 3), (4, .iload_n 2, 1), (5, .ifCond .lt 14, 3), (8, .aload_n 0, 1), (9, .getfield 28, 3), (12, .ldc2_w 132, 3), (15, .lxor, 1), (16, .goto 4, 3), (19, .lconst 0, 1), (20, .lstore_n 3, 1), (21, .lload_n 3, 1), (22, .iload_n 1, 1), (23, .iconst 1, 1), (24, .if_icmp .gt 24, 3), (27, .iload_n 2, 1), (28, .iconst 1, 1), (29, .if_icmp .lt 19, 3), (32, .aload_n 0, 1), (33, .getfield 28, 3), (36, .aload_n 0, 1), (37, .getfield 34, 3), (40, .ldc2_w 132, 3), (43, .lxor, 1), (44, .land, 1), (45, .goto 4, 3), (48, .lconst 0, 1), (49, .lor, 1), (50, .lstore_n 3, 1), (51, .lload_n 3, 1), (52, .iload_n 1, 1), (53, .iconst 2, 1), (54, .if_icmp .gt 15, 3), (57, .iload_n 2, 1), (58, .iconst 2, 1), (59, .if_icmp .lt 10, 3), (62, .aload_n 0, 1), (63, .getfield 34, 3), (66, .goto 4, 3), (69, .lconst 0, 1), (70, .lor, 1), (71, .lstore_n 3, 1), (72, .lload_n 3, 1), (73, .lreturn, 1)]
def gC64 : List (Nat × Instr × Nat) := [(0, .iload_n 1, 1), (1, .ifCond .gt 27, 3), (4, .iload_n 2, 1), (5, .ifCond .lt 23, 3), (8, .aload_n 0, 1), (9, .getfield 44, 3), (12, .ldc2_w 132, 3), (15, .lxor, 1), (16, .aload_n 0, 1), (17, .getfield 39, 3), (20, .ldc2_w 132, 3), (23, .lxor, 1), (24, .land, 1), (25, .goto 4, 3), (28, .lconst 0, 1), (29, .lstore_n 3, 1), (30, .lload_n 3, 1), (31, .iload_n 1, 1), (32, .iconst 1, 1), (33, .if_icmp .gt 24, 3), (36, .iload_n 2, 1), (37, .iconst 1, 1), (38, .if_icmp .lt 19, 3), (41, .aload_n 0, 1), (42, .getfield 44, 3), (45, .ldc2_w 132, 3), (48, .lxor, 1), (49, .aload_n 0, 1), (50, .getfield 39, 3), (53, .land, 1), (54, .goto 4, 3), (57, .lconst 0, 1), (58, .lor, 1), (59, .lstore_n 3, 1), (60, .lload_n 3, 1), (61, .iload_n 1, 1), (62, .iconst 2, 1), (63, .if_icmp .gt 24, 3), (66, .iload_n 2, 1), (67, .iconst 2, 1), (68, .if_icmp .lt 19, 3), (71, .aload_n 0, 1), (72, .getfield 44, 3), (75, .aload_n 0, 1), (76, .getfield 39, 3), (79, .ldc2_w 132, 3), (82, .lxor, 1), (83, .land, 1), (84, .goto 4, 3), (87, .lconst 0, 1), (88, .lor, 1), (89, .lstore_n 3, 1), (90, .lload_n 3, 1), (91, .iload_n 1, 1), (92, .iconst 3, 1), (93, .if_icmp .gt 20, 3), (96, .iload_n 2, 1), (97, .iconst 3, 1), (98, .if_icmp .lt 15, 3), (101, .aload_n 0, 1), (102, .getfield 44, 3), (105, .aload_n 0, 1), (106, .getfield 39, 3), (109, .land, 1), (110, .goto 4, 3), (113, .lconst 0, 1), (114, .lor, 1), (115, .lstore_n 3, 1), (116, .lload_n 3, 1), (117, .lreturn, 1)]
def gC65 : List (Nat × Instr × Nat) := [(0, .aload_n 0, 1), (1, .invokespecial 3, 3), (4, .aload_n 0, 1), (5, .sipush 940, 3), (8, .newarray .int, 2), (10, .putfield 9, 3), (13, .return_, 1)]
def gC66 : List (Nat × Instr × Nat) := [(0, .bipush 24, 2), (2, .istore_n 2, 1), (3, .iload_n 2, 1), (4, .ifCond .lt 45, 3), (7, .aload_n 0, 1), (8, .getfield 15, 3), (11, .sipush 940, 3), (14, .if_icmp .ge 35, 3), (17, .aload_n 0, 1), (18, .getfield 9, 3), (21, .aload_n 0, 1), (22, .getfield 15, 3), (25, .iload_n 1, 1), (26, .iload_n 2, 1), (27, .iushr, 1), (28, .sipush 255, 3), (31, .iand, 1), (32, .iastore, 1), (33, .aload_n 0, 1), (34, .dup, 1), (35, .getfield 15, 3), (38, .iconst 1, 1), (39, .iadd, 1), (40, .putfield 15, 3), (43, .iinc 2 (-8), 3), (46, .goto (-43), 3), (49, .return_, 1)]
def gC67 : List (Nat × Instr × Nat) := [(0, .aload_n 0, 1), (1, .getfield 15, 3), (4, .istore_n 1, 1), (5, .aload_n 0, 1), (6, .iconst 0, 1), (7, .putfield 15, 3), (10, .iload_n 1, 1), (11, .ireturn, 1)]
def gC68 : List (Nat × Instr × Nat) := [(0, .aload_n 0, 1), (1, .invokespecial 3, 3), (4, .aload_n 0, 1), (5, .aload_n 1, 1), (6, .getfield 9, 3), (9, .putfield 15, 3), (12, .return_, 1)]
def gC69 : List (Nat × Instr × Nat) := [(0, .aload_n 0, 1), (1, .iload_n 1, 1), (2, .aload_n 0, 1), (3, .getfield 15, 3), (6, .arraylength, 1), (7, .invokestatic 18, 3), (10, .putfield 24, 3), (13, .aload_n 0, 1), (14, .aload_n 0, 1), (15, .getfield 24, 3), (18, .iload_n 2, 1), (19, .invokestatic 18, 3), (22, .putfield 28, 3), (25, .aload_n 0, 1), (26, .iconst 0, 1), (27, .putfield 31, 3), (30, .aload_n 0, 1), (31, .iconst 0, 1), (32, .putfield 34, 3), (35, .aload_n 0, 1), (36, .invokevirtual 37, 3), (39, .return_, 1)]
def gC70 : List (Nat × Instr × Nat) := [(0, .aload_n 0, 1), (1, .getfield 31, 3), (4, .aload_n 0, 1), (5, .getfield 24, 3), (8, .if_icmp .ge 44, 3), (11, .aload_n 0, 1), (12, .getfield 15, 3), (15, .aload_n 0, 1), (16, .getfield 31, 3), (19, .iaload, 1), (20, .bipush 32, 2), (22, .if_icmp .eq 17, 3), (25, .aload_n 0, 1), (26, .getfield 15, 3), (29, .aload_n 0, 1), (30, .getfield 31, 3), (33, .iaload, 1), (34, .bipush 10, 2), (36, .if_icmp .ne 16, 3), (39, .aload_n 0, 1), (40, .dup, 1), (41, .getfield 31, 3), (44, .iconst 1, 1), (45, .iadd, 1), (46, .putfield 31, 3), (49, .goto (-49), 3), (52, .aload_n 0, 1), (53, .getfield 31, 3), (56, .aload_n 0, 1), (57, .getfield 28, 3), (60, .if_icmp .lt 32, 3), (63, .aload_n 0, 1), (64, .aload_n 0, 1), (65, .getfield 28, 3), (68, .putfield 40, 3), (71, .aload_n 0, 1), (72, .aload_n 0, 1), (73, .getfield 24, 3), (76, .aload_n 0, 1), (77, .getfield 28, 3), (80, .if_icmp .le 7, 3), (83, .iconst 0, 1), (84, .goto 4, 3), (87, .iconst 1, 1), (88, .putfield 43, 3), (91, .return_, 1), (92, .aload_n 0, 1), (93, .aload_n 0, 1), (94, .getfield 31, 3), (97, .putfield 40, 3), (100, .iconst 0, 1), (101, .istore_n 1, 1), (102, .iconst 0, 1), (103, .istore_n 2, 1), (104, .aload_n 0, 1), (105, .iconst 0, 1), (106, .putfield 46, 3), (109, .aload_n 0, 1), (110, .getfield 15, 3), (113, .aload_n 0, 1), (114, .getfield 31, 3), (117, .iaload, 1), (118, .istore_n 3, 1), (119, .aload_n 0, 1), (120, .getfield 31, 3), (123, .aload_n 0, 1), (124, .getfield 24, 3), (127, .if_icmp .ge 97, 3), (130, .iload_n 3, 1), (131, .bipush 97, 2), (133, .if_icmp .lt 9, 3), (136, .iload_n 3, 1), (137, .bipush 122, 2), (139, .if_icmp .le 15, 3), (142, .iload_n 3, 1), (143, .bipush 48, 2), (145, .if_icmp .lt 79, 3), (148, .iload_n 3, 1), (149, .bipush 57, 2), (151, .if_icmp .gt 73, 3), (154, .iload_n 3, 1), (155, .bipush 97, 2), (157, .if_icmp .lt 9, 3), (160, .iinc 1 1, 3), (163, .goto 22, 3), (166, .iinc 2 1, 3), (169, .aload_n 0, 1), (170, .aload_n 0, 1), (171, .getfield 46, 3), (174, .bipush 10, 2), (176, .imul, 1), (177, .iload_n 3, 1), (178, .iadd, 1), (179, .bipush 48, 2), (181, .isub, 1), (182, .putfield 46, 3), (185, .aload_n 0, 1), (186, .dup, 1), (187, .getfield 31, 3), (190, .iconst 1, 1), (191, .iadd, 1), (192, .putfield 31, 3), (195, .aload_n 0, 1), (196, .getfield 31, 3), (199, .aload_n 0, 1), (200, .getfield 24, 3), (203, .if_icmp .ge 15, 3), (206, .aload_n 0, 1), (207, .getfield 15, 3), (210, .aload_n 0, 1), (211, .getfield 31, 3), (214, .iaload, 1), (215, .goto 5, 3), (218, .bipush 32, 2), (220, .istore_n 3, 1), (221, .goto (-102), 3), (224, .iload_n 1, 1), (225, .iload_n 2, 1), (226, .iadd, 1), (227, .ifCond .ne 67, 3), (230, .aload_n 0, 1), (231, .dup, 1), (232, .getfield 31, 3), (235, .iconst 1, 1), (236, .iadd, 1), (237, .putfield 31, 3), (240, .iload_n 3, 1), (241, .bipush 59, 2), (243, .if_icmp .eq 27, 3), (246, .iload_n 3, 1), (247, .bipush 40, 2), (249, .if_icmp .eq 21, 3), (252, .iload_n 3, 1), (253, .bipush 41, 2), (255, .if_icmp .eq 15, 3), (258, .iload_n 3, 1), (259, .bipush 60, 2), (261, .if_icmp .lt 13, 3), (264, .iload_n 3, 1), (265, .bipush 62, 2), (267, .if_icmp .gt 7, 3), (270, .iconst 1, 1), (271, .goto 4, 3), (274, .iconst 0, 1), (275, .istore 4, 2), (277, .aload_n 0, 1), (278, .iload 4, 2), (280, .ifCond .eq 7, 3), (283, .iload_n 3, 1), (284, .goto 4, 3), (287, .iconst 0, 1), (288, .putfield 43, 3), (291, .goto 43, 3), (294, .iload_n 2, 1), (295, .ifCond .ne 21, 3), (298, .aload_n 0, 1), (299, .iload_n 1, 1), (300, .bipush 8, 2), (302, .if_icmp .gt 7, 3), (305, .iconst 2, 1), (306, .goto 4, 3), (309, .iconst 0, 1), (310, .putfield 43, 3), (313, .goto 21, 3), (316, .aload_n 0, 1), (317, .iload_n 1, 1), (318, .ifCond .ne 12, 3), (321, .iload_n 2, 1), (322, .iconst 3, 1), (323, .if_icmp .gt 7, 3), (326, .iconst 3, 1), (327, .goto 4, 3), (330, .iconst 0, 1), (331, .putfield 43, 3), (334, .return_, 1)]
def gC71 : List (Nat × Instr × Nat) := [(0, .aload_n 0, 1), (1, .getfield 31, 3), (4, .aload_n 0, 1), (5, .getfield 40, 3), (8, .isub, 1), (9, .ireturn, 1)]
def gC72 : List (Nat × Instr × Nat) := [(0, .iload_n 1, 1), (1, .ifCond .lt 44, 3), (4, .aload_n 0, 1), (5, .getfield 40, 3), (8, .iload_n 1, 1), (9, .iadd, 1), (10, .aload_n 0, 1), (11, .getfield 31, 3), (14, .if_icmp .ge 31, 3), (17, .aload_n 0, 1), (18, .getfield 40, 3), (21, .iload_n 1, 1), (22, .iadd, 1), (23, .aload_n 0, 1), (24, .getfield 15, 3), (27, .arraylength, 1), (28, .if_icmp .ge 17, 3), (31, .aload_n 0, 1), (32, .getfield 15, 3), (35, .aload_n 0, 1), (36, .getfield 40, 3), (39, .iload_n 1, 1), (40, .iadd, 1), (41, .iaload, 1), (42, .goto 5, 3), (45, .bipush 32, 2), (47, .ireturn, 1)]
def gC73 : List (Nat × Instr × Nat) := [(0, .aload_n 0, 1), (1, .getfield 43, 3), (4, .iconst 2, 1), (5, .if_icmp .eq 5, 3), (8, .iconst (-1), 1), (9, .ireturn, 1), (10, .iconst 0, 1), (11, .istore_n 2, 1), (12, .iload_n 2, 1), (13, .bipush 8, 2), (15, .iadd, 1), (16, .aload_n 1, 1), (17, .invokevirtual 49, 3), (20, .if_icmp .gt 23, 3), (23, .aload_n 0, 1), (24, .aload_n 1, 1), (25, .iload_n 2, 1), (26, .invokevirtual 54, 3), (29, .ifCond .eq 8, 3), (32, .iload_n 2, 1), (33, .bipush 8, 2), (35, .idiv, 1), (36, .ireturn, 1), (37, .iinc 2 8, 3), (40, .goto (-28), 3), (43, .iconst (-1), 1), (44, .ireturn, 1)]
def gC74 : List (Nat × Instr × Nat) := [(0, .iconst 0, 1), (1, .istore_n 3, 1), (2, .iload_n 3, 1), (3, .bipush 8, 2), (5, .if_icmp .ge 36, 3), (8, .iload_n 2, 1), (9, .iload_n 3, 1), (10, .iadd, 1), (11, .aload_n 1, 1), (12, .invokevirtual 49, 3), (15, .if_icmp .ge 26, 3), (18, .aload_n 1, 1), (19, .iload_n 2, 1), (20, .iload_n 3, 1), (21, .iadd, 1), (22, .invokevirtual 58, 3), (25, .aload_n 0, 1), (26, .iload_n 3, 1), (27, .invokevirtual 62, 3), (30, .if_icmp .eq 5, 3), (33, .iconst 0, 1), (34, .ireturn, 1), (35, .iinc 3 1, 3), (38, .goto (-36), 3), (41, .iconst 1, 1), (42, .ireturn, 1)]
def gC75 : List (Nat × Instr × Nat) := [(0, .aload_n 0, 1), (1, .iload_n 1, 1), (2, .putfield 34, 3), (5, .iconst 0, 1), (6, .ireturn, 1)]
def gC76 : List (Nat × Instr × Nat) := [(0, .aload_n 0, 1), (1, .getfield 43, 3), (4, .iconst 3, 1), (5, .if_icmp .eq 11, 3), (8, .aload_n 0, 1), (9, .iconst 1, 1), (10, .putfield 34, 3), (13, .goto 24, 3), (16, .aload_n 0, 1), (17, .getfield 46, 3), (20, .iload_n 1, 1), (21, .if_icmp .lt 11, 3), (24, .aload_n 0, 1), (25, .getfield 46, 3), (28, .iload_n 2, 1), (29, .if_icmp .le 8, 3), (32, .aload_n 0, 1), (33, .iconst 2, 1), (34, .putfield 34, 3), (37, .aload_n 0, 1), (38, .getfield 34, 3), (41, .ifCond .ne 7, 3), (44, .iconst 1, 1), (45, .goto 4, 3), (48, .iconst 0, 1), (49, .ireturn, 1)]
def gC77 : List (Nat × Instr × Nat) := [(0, .aload_n 0, 1), (1, .iload_n 1, 1), (2, .iload_n 2, 1), (3, .invokevirtual 66, 3), (6, .ifCond .ne 5, 3), (9, .iconst 0, 1), (10, .ireturn, 1), (11, .aload_n 0, 1), (12, .aload_n 0, 1), (13, .getfield 46, 3), (16, .putfield 70, 3), (19, .aload_n 0, 1), (20, .invokevirtual 37, 3), (23, .iconst 1, 1), (24, .ireturn, 1)]
def gC78 : List (Nat × Instr × Nat) := [(0, .aload_n 0, 1), (1, .getfield 43, 3), (4, .iload_n 1, 1), (5, .if_icmp .eq 9, 3), (8, .aload_n 0, 1), (9, .iconst 1, 1), (10, .invokevirtual 73, 3), (13, .ireturn, 1), (14, .aload_n 0, 1), (15, .invokevirtual 37, 3), (18, .iconst 1, 1), (19, .ireturn, 1)]
def gC79 : List (Nat × Instr × Nat) := [(0, .aload_n 0, 1), (1, .invokespecial 3, 3), (4, .aload_n 0, 1), (5, .sipush 256, 3), (8, .newarray .int, 2), (10, .putfield 9, 3), (13, .aload_n 0, 1), (14, .sipush 256, 3), (17, .newarray .int, 2), (19, .putfield 15, 3), (22, .aload_n 0, 1), (23, .bipush 8, 2), (25, .newarray .int, 2), (27, .putfield 18, 3), (30, .aload_n 0, 1), (31, .iconst (-1), 1), (32, .putfield 21, 3), (35, .aload_n 0, 1), (36, .iconst (-1), 1), (37, .putfield 25, 3), (40, .aload_n 0, 1), (41, .iconst (-1), 1), (42, .putfield 28, 3), (45, .aload_n 0, 1), (46, .iconst (-1), 1), (47, .putfield 31, 3), (50, .aload_n 0, 1), (51, .iconst (-1), 1), (52, .putfield 34, 3), (55, .aload_n 0, 1), (56, .iconst (-1), 1), (57, .putfield 37, 3), (60, .aload_n 0, 1), (61, .aload_n 1, 1), (62, .putfield 40, 3), (65, .aload_n 0, 1), (66, .aload_n 2, 1), (67, .getfield 44, 3), (70, .putfield 49, 3), (73, .aload_n 0, 1), (74, .new 50, 3), (77, .dup, 1), (78, .aload_n 1, 1), (79, .invokespecial 52, 3), (82, .putfield 55, 3), (85, .aload_n 0, 1), (86, .new 50, 3), (89, .dup, 1), (90, .aload_n 1, 1), (91, .invokespecial 52, 3), (94, .putfield 59, 3), (97, .return_, 1)]
def gC80 : List (Nat × Instr × Nat) := [(0, .iload_n 1, 1), (1, .iconst 1, 1), (2, .if_icmp .lt 22, 3), (5, .iload_n 1, 1), (6, .bipush 8, 2), (8, .if_icmp .gt 16, 3), (11, .aload_n 0, 1), (12, .iconst 0, 1), (13, .iload_n 1, 1), (14, .invokevirtual 62, 3), (17, .ifCond .eq 7, 3), (20, .iconst 1, 1), (21, .goto 4, 3), (24, .iconst 0, 1), (25, .ireturn, 1)]
def gC81 : List (Nat × Instr × Nat) := [(0, .lconst 0, 1), (1, .lstore_n 3, 1), (2, .iload_n 1, 1), (3, .istore 5, 2), (5, .iload 5, 2), (7, .iload_n 2, 1), (8, .if_icmp .ge 58, 3), (11, .aload_n 0, 1), (12, .getfield 40, 3), (15, .getfield 66, 3), (18, .aload_n 0, 1), (19, .getfield 49, 3), (22, .iload 5, 2), (24, .iaload, 1), (25, .invokevirtual 72, 3), (28, .ifCond .eq 18, 3), (31, .lload_n 3, 1), (32, .aload_n 0, 1), (33, .getfield 49, 3), (36, .iload 5, 2), (38, .iaload, 1), (39, .invokestatic 78, 3), (42, .iconst 1, 1), (43, .if_icmp .ne 5, 3), (46, .iconst 0, 1), (47, .ireturn, 1), (48, .lload_n 3, 1), (49, .lconst 1, 1), (50, .aload_n 0, 1), (51, .getfield 49, 3), (54, .iload 5, 2), (56, .iaload, 1), (57, .lshl, 1), (58, .lor, 1), (59, .lstore_n 3, 1), (60, .iinc 5 1, 3), (63, .goto (-58), 3), (66, .iconst 1, 1), (67, .ireturn, 1)]
def gC82 : List (Nat × Instr × Nat) := [(0, .lconst 0, 1), (1, .lstore_n 3, 1), (2, .iconst 0, 1), (3, .istore 5, 2), (5, .iload 5, 2), (7, .iload_n 2, 1), (8, .if_icmp .ge 30, 3), (11, .iload_n 1, 1), (12, .iload 5, 2), (14, .iushr, 1), (15, .iconst 1, 1), (16, .iand, 1), (17, .ifCond .eq 15, 3), (20, .lload_n 3, 1), (21, .lconst 1, 1), (22, .aload_n 0, 1), (23, .getfield 49, 3), (26, .iload 5, 2), (28, .iaload, 1), (29, .lshl, 1), (30, .lor, 1), (31, .lstore_n 3, 1), (32, .iinc 5 1, 3), (35, .goto (-30), 3), (38, .lload_n 3, 1), (39, .lreturn, 1)]
def gC83 : List (Nat × Instr × Nat) := [(0, .iconst 0, 1), (1, .istore_n 3, 1), (2, .iconst 0, 1), (3, .istore 4, 2), (5, .iload 4, 2), (7, .iload_n 2, 1), (8, .if_icmp .ge 38, 3), (11, .iload_n 1, 1), (12, .iload 4, 2), (14, .iushr, 1), (15, .iconst 1, 1), (16, .iand, 1), (17, .ifCond .eq 23, 3), (20, .iload_n 3, 1), (21, .aload_n 0, 1), (22, .getfield 40, 3), (25, .getfield 66, 3), (28, .aload_n 0, 1), (29, .getfield 49, 3), (32, .iload 4, 2), (34, .iaload, 1), (35, .invokevirtual 82, 3), (38, .iadd, 1), (39, .istore_n 3, 1), (40, .iinc 4 1, 3), (43, .goto (-38), 3), (46, .iload_n 3, 1), (47, .ireturn, 1)]
def gC84 : List (Nat × Instr × Nat) := [(0, .aload_n 0, 1), (1, .getfield 40, 3), (4, .getfield 66, 3), (7, .getfield 86, 3), (10, .istore_n 2, 1), (11, .iconst (-1), 1), (12, .istore_n 3, 1), (13, .iconst (-1), 1), (14, .istore 4, 2), (16, .iconst 0, 1), (17, .istore 5, 2), (19, .iload 5, 2), (21, .iconst 1, 1), (22, .iload_n 1, 1), (23, .ishl, 1), (24, .if_icmp .ge 106, 3), (27, .aload_n 0, 1), (28, .getfield 40, 3), (31, .getfield 89, 3), (34, .aload_n 0, 1), (35, .iload 5, 2), (37, .iload_n 1, 1), (38, .invokevirtual 93, 3), (41, .lor, 1), (42, .lstore 6, 2), (44, .aload_n 0, 1), (45, .iload 5, 2), (47, .iload_n 1, 1), (48, .invokevirtual 97, 3), (51, .istore 8, 2), (53, .iload_n 3, 1), (54, .iconst (-1), 1), (55, .if_icmp .eq 29, 3), (58, .iload 8, 2), (60, .iload 4, 2), (62, .if_icmp .lt 22, 3), (65, .iload 8, 2), (67, .iload 4, 2), (69, .if_icmp .ne 19, 3), (72, .iload 5, 2), (74, .invokestatic 101, 3), (77, .iload_n 3, 1), (78, .invokestatic 101, 3), (81, .if_icmp .ge 7, 3), (84, .iconst 1, 1), (85, .goto 4, 3), (88, .iconst 0, 1), (89, .istore 9, 2), (91, .iload 9, 2), (93, .ifCond .eq 31, 3), (96, .aload_n 0, 1), (97, .getfield 55, 3), (100, .lload 6, 2), (102, .aload_n 0, 1), (103, .getfield 40, 3), (106, .getfield 106, 3), (109, .iload_n 2, 1), (110, .invokevirtual 109, 3), (113, .iload_n 2, 1), (114, .if_icmp .lt 10, 3), (117, .iload 5, 2), (119, .istore_n 3, 1), (120, .iload 8, 2), (122, .istore 4, 2), (124, .iinc 5 1, 3), (127, .goto (-108), 3), (130, .iload_n 3, 1), (131, .iconst (-1), 1), (132, .if_icmp .eq 8, 3), (135, .aload_n 0, 1), (136, .iload_n 3, 1), (137, .putfield 21, 3), (140, .iload 4, 2), (142, .ireturn, 1)]
def gC85 : List (Nat × Instr × Nat) := [(0, .aload_n 0, 1), (1, .getfield 40, 3), (4, .getfield 66, 3), (7, .getfield 86, 3), (10, .istore_n 2, 1), (11, .iconst (-1), 1), (12, .istore_n 3, 1), (13, .iconst 0, 1), (14, .istore 4, 2), (16, .iload 4, 2), (18, .iconst 1, 1), (19, .iload_n 1, 1), (20, .ishl, 1), (21, .if_icmp .ge 79, 3), (24, .iload_n 3, 1), (25, .iconst (-1), 1), (26, .if_icmp .eq 15, 3), (29, .iload 4, 2), (31, .invokestatic 101, 3), (34, .iload_n 3, 1), (35, .invokestatic 101, 3), (38, .if_icmp .ge 7, 3), (41, .iconst 1, 1), (42, .goto 4, 3), (45, .iconst 0, 1), (46, .istore 5, 2), (48, .aload_n 0, 1), (49, .getfield 40, 3), (52, .getfield 106, 3), (55, .aload_n 0, 1), (56, .iload 4, 2), (58, .iload_n 1, 1), (59, .invokevirtual 93, 3), (62, .lor, 1), (63, .lstore 6, 2), (65, .iload 5, 2), (67, .ifCond .eq 27, 3), (70, .aload_n 0, 1), (71, .getfield 55, 3), (74, .aload_n 0, 1), (75, .getfield 40, 3), (78, .getfield 89, 3), (81, .lload 6, 2), (83, .iload_n 2, 1), (84, .invokevirtual 109, 3), (87, .iload_n 2, 1), (88, .if_icmp .ge 6, 3), (91, .iload 4, 2), (93, .istore_n 3, 1), (94, .iinc 4 1, 3), (97, .goto (-81), 3), (100, .iload_n 3, 1), (101, .ireturn, 1)]
def gC86 : List (Nat × Instr × Nat) := [(0, .aload_n 0, 1), (1, .getfield 40, 3), (4, .getfield 66, 3), (7, .getfield 86, 3), (10, .istore_n 2, 1), (11, .iconst 0, 1), (12, .istore_n 3, 1), (13, .iconst 0, 1), (14, .istore 4, 2), (16, .iload 4, 2), (18, .iconst 1, 1), (19, .iload_n 1, 1), (20, .ishl, 1), (21, .if_icmp .ge 68, 3), (24, .aload_n 0, 1), (25, .iload 4, 2), (27, .iload_n 3, 1), (28, .invokevirtual 113, 3), (31, .ifCond .ne 52, 3), (34, .aload_n 0, 1), (35, .getfield 40, 3), (38, .getfield 89, 3), (41, .aload_n 0, 1), (42, .iload 4, 2), (44, .iload_n 1, 1), (45, .invokevirtual 93, 3), (48, .lor, 1), (49, .lstore 5, 2), (51, .aload_n 0, 1), (52, .getfield 55, 3), (55, .lload 5, 2), (57, .aload_n 0, 1), (58, .getfield 40, 3), (61, .getfield 106, 3), (64, .iload_n 2, 1), (65, .invokevirtual 109, 3), (68, .iload_n 2, 1), (69, .if_icmp .lt 14, 3), (72, .aload_n 0, 1), (73, .getfield 15, 3), (76, .iload_n 3, 1), (77, .iload 4, 2), (79, .iastore, 1), (80, .iinc 3 1, 3), (83, .iinc 4 1, 3), (86, .goto (-70), 3), (89, .iload_n 3, 1), (90, .ireturn, 1)]
def gC87 : List (Nat × Instr × Nat) := [(0, .iconst 0, 1), (1, .istore_n 3, 1), (2, .iload_n 3, 1), (3, .iload_n 2, 1), (4, .if_icmp .ge 24, 3), (7, .aload_n 0, 1), (8, .getfield 15, 3), (11, .iload_n 3, 1), (12, .iaload, 1), (13, .iload_n 1, 1), (14, .iconst (-1), 1), (15, .ixor, 1), (16, .iand, 1), (17, .ifCond .ne 5, 3), (20, .iconst 1, 1), (21, .ireturn, 1), (22, .iinc 3 1, 3), (25, .goto (-23), 3), (28, .iconst 0, 1), (29, .ireturn, 1)]
def gC88 : List (Nat × Instr × Nat) := [(0, .iconst 1, 1), (1, .iload_n 1, 1), (2, .ishl, 1), (3, .istore_n 2, 1), (4, .iconst 0, 1), (5, .istore_n 3, 1), (6, .iload_n 3, 1), (7, .iload_n 2, 1), (8, .if_icmp .ge 37, 3), (11, .aload_n 0, 1), (12, .getfield 9, 3), (15, .iload_n 3, 1), (16, .aload_n 0, 1), (17, .getfield 55, 3), (20, .aload_n 0, 1), (21, .iload_n 3, 1), (22, .iload_n 1, 1), (23, .invokevirtual 93, 3), (26, .aload_n 0, 1), (27, .getfield 40, 3), (30, .getfield 106, 3), (33, .bipush 64, 2), (35, .invokevirtual 109, 3), (38, .iastore, 1), (39, .iinc 3 1, 3), (42, .goto (-36), 3), (45, .iconst 0, 1), (46, .istore_n 3, 1), (47, .iload_n 3, 1), (48, .iload_n 1, 1), (49, .if_icmp .ge 21, 3), (52, .aload_n 0, 1), (53, .getfield 18, 3), (56, .iload_n 3, 1), (57, .aload_n 0, 1), (58, .iload_n 3, 1), (59, .iload_n 1, 1), (60, .invokevirtual 116, 3), (63, .iastore, 1), (64, .iinc 3 1, 3), (67, .goto (-20), 3), (70, .aload_n 0, 1), (71, .iload_n 1, 1), (72, .putfield 119, 3), (75, .aload_n 0, 1), (76, .getfield 9, 3), (79, .iload_n 2, 1), (80, .iconst 1, 1), (81, .isub, 1), (82, .iaload, 1), (83, .ireturn, 1)]
def gC89 : List (Nat × Instr × Nat) := [(0, .iconst 0, 1), (1, .istore_n 3, 1), (2, .iconst 0, 1), (3, .istore 4, 2), (5, .iload 4, 2), (7, .iconst 1, 1), (8, .iload_n 2, 1), (9, .ishl, 1), (10, .if_icmp .ge 69, 3), (13, .iload 4, 2), (15, .iload_n 1, 1), (16, .iushr, 1), (17, .iconst 1, 1), (18, .iand, 1), (19, .ifCond .ne 54, 3), (22, .iload 4, 2), (24, .invokestatic 101, 3), (27, .istore 5, 2), (29, .aload_n 0, 1), (30, .iload 5, 2), (32, .invokevirtual 122, 3), (35, .aload_n 0, 1), (36, .iload_n 2, 1), (37, .iconst 1, 1), (38, .isub, 1), (39, .iload 5, 2), (41, .isub, 1), (42, .invokevirtual 122, 3), (45, .imul, 1), (46, .istore 6, 2), (48, .iload_n 3, 1), (49, .iload 6, 2), (51, .aload_n 0, 1), (52, .getfield 9, 3), (55, .iload 4, 2), (57, .iconst 1, 1), (58, .iload_n 1, 1), (59, .ishl, 1), (60, .ior, 1), (61, .iaload, 1), (62, .aload_n 0, 1), (63, .getfield 9, 3), (66, .iload 4, 2), (68, .iaload, 1), (69, .isub, 1), (70, .imul, 1), (71, .iadd, 1), (72, .istore_n 3, 1), (73, .iinc 4 1, 3), (76, .goto (-71), 3), (79, .iload_n 3, 1), (80, .ireturn, 1)]
def gC90 : List (Nat × Instr × Nat) := [(0, .iconst 1, 1), (1, .istore_n 2, 1), (2, .iconst 2, 1), (3, .istore_n 3, 1), (4, .iload_n 3, 1), (5, .iload_n 1, 1), (6, .if_icmp .gt 19, 3), (9, .iload_n 3, 1), (10, .bipush 8, 2), (12, .if_icmp .gt 13, 3), (15, .iload_n 2, 1), (16, .iload_n 3, 1), (17, .imul, 1), (18, .istore_n 2, 1), (19, .iinc 3 1, 3), (22, .goto (-18), 3), (25, .iload_n 2, 1), (26, .ireturn, 1)]
def gC91 : List (Nat × Instr × Nat) := [(0, .iload_n 1, 1), (1, .istore_n 3, 1), (2, .iload_n 2, 1), (3, .istore 4, 2), (5, .iconst 0, 1), (6, .istore 5, 2), (8, .iload 5, 2), (10, .bipush 64, 2), (12, .if_icmp .ge 27, 3), (15, .iload 4, 2), (17, .ifCond .le 22, 3), (20, .iload_n 3, 1), (21, .iload 4, 2), (23, .irem, 1), (24, .istore 6, 2), (26, .iload 4, 2), (28, .istore_n 3, 1), (29, .iload 6, 2), (31, .istore 4, 2), (33, .iinc 5 1, 3), (36, .goto (-28), 3), (39, .iload_n 3, 1), (40, .ireturn, 1)]
def gC92 : List (Nat × Instr × Nat) := [(0, .iconst (-1), 1), (1, .istore_n 3, 1), (2, .iconst 1, 1), (3, .istore 4, 2), (5, .iload 4, 2), (7, .iload_n 1, 1), (8, .if_icmp .gt 129, 3), (11, .bipush 64, 2), (13, .istore 5, 2), (15, .iload_n 1, 1), (16, .iconst 1, 1), (17, .iadd, 1), (18, .istore 6, 2), (20, .iload 6, 2), (22, .iload_n 2, 1), (23, .if_icmp .ge 88, 3), (26, .aload_n 0, 1), (27, .getfield 40, 3), (30, .getfield 89, 3), (33, .lconst 1, 1), (34, .aload_n 0, 1), (35, .getfield 49, 3), (38, .iload 4, 2), (40, .iaload, 1), (41, .lshl, 1), (42, .lor, 1), (43, .lstore 7, 2), (45, .aload_n 0, 1), (46, .getfield 40, 3), (49, .getfield 106, 3), (52, .lconst 1, 1), (53, .aload_n 0, 1), (54, .getfield 49, 3), (57, .iload 6, 2), (59, .iaload, 1), (60, .lshl, 1), (61, .lor, 1), (62, .lstore 9, 2), (64, .aload_n 0, 1), (65, .getfield 55, 3), (68, .lload 7, 2), (70, .lload 9, 2), (72, .bipush 64, 2), (74, .invokevirtual 109, 3), (77, .istore 11, 2), (79, .aload_n 0, 1), (80, .getfield 9, 3), (83, .iload 4, 2), (85, .bipush 8, 2), (87, .imul, 1), (88, .iload 6, 2), (90, .iadd, 1), (91, .iload_n 1, 1), (92, .isub, 1), (93, .iload 11, 2), (95, .iastore, 1), (96, .iload 5, 2), (98, .iload 11, 2), (100, .invokestatic 125, 3), (103, .istore 5, 2), (105, .iinc 6 1, 3), (108, .goto (-88), 3), (111, .iload 5, 2), (113, .iload_n 3, 1), (114, .if_icmp .le 17, 3), (117, .iload 5, 2), (119, .istore_n 3, 1), (120, .aload_n 0, 1), (121, .aload_n 0, 1), (122, .getfield 49, 3), (125, .iload 4, 2), (127, .iaload, 1), (128, .putfield 28, 3), (131, .iinc 4 1, 3), (134, .goto (-129), 3), (137, .aload_n 0, 1), (138, .bipush 65, 2), (140, .putfield 25, 3), (143, .iload_n 1, 1), (144, .iconst 1, 1), (145, .iadd, 1), (146, .istore 4, 2), (148, .iload 4, 2), (150, .iload_n 2, 1), (151, .if_icmp .ge 75, 3), (154, .iconst (-1), 1), (155, .istore 5, 2), (157, .iconst 1, 1), (158, .istore 6, 2), (160, .iload 6, 2), (162, .iload_n 1, 1), (163, .if_icmp .gt 31, 3), (166, .iload 5, 2), (168, .aload_n 0, 1), (169, .getfield 9, 3), (172, .iload 6, 2), (174, .bipush 8, 2), (176, .imul, 1), (177, .iload 4, 2), (179, .iadd, 1), (180, .iload_n 1, 1), (181, .isub, 1), (182, .iaload, 1), (183, .invokestatic 130, 3), (186, .istore 5, 2), (188, .iinc 6 1, 3), (191, .goto (-31), 3), (194, .iload 5, 2), (196, .aload_n 0, 1), (197, .getfield 25, 3), (200, .if_icmp .ge 20, 3), (203, .aload_n 0, 1), (204, .iload 5, 2), (206, .putfield 25, 3), (209, .aload_n 0, 1), (210, .aload_n 0, 1), (211, .getfield 49, 3), (214, .iload 4, 2), (216, .iaload, 1), (217, .putfield 31, 3), (220, .iinc 4 1, 3), (223, .goto (-75), 3), (226, .iload_n 3, 1), (227, .ireturn, 1)]
def gC93 : List (Nat × Instr × Nat) := [(0, .aload_n 0, 1), (1, .lconst 0, 1), (2, .putfield 133, 3), (5, .aload_n 0, 1), (6, .lconst 0, 1), (7, .putfield 136, 3), (10, .aload_n 0, 1), (11, .lconst 0, 1), (12, .putfield 139, 3), (15, .iconst 0, 1), (16, .istore_n 2, 1), (17, .iload_n 2, 1), (18, .iload_n 1, 1), (19, .if_icmp .ge 132, 3), (22, .iload_n 2, 1), (23, .bipush 64, 2), (25, .if_icmp .ge 126, 3), (28, .aload_n 0, 1), (29, .getfield 40, 3), (32, .getfield 66, 3), (35, .iload_n 2, 1), (36, .invokevirtual 72, 3), (39, .ifCond .eq 106, 3), (42, .aload_n 0, 1), (43, .getfield 49, 3), (46, .iload_n 2, 1), (47, .iaload, 1), (48, .iconst 3, 1), (49, .if_icmp .le 5, 3), (52, .iconst 0, 1), (53, .ireturn, 1), (54, .aload_n 0, 1), (55, .aload_n 0, 1), (56, .getfield 133, 3), (59, .iload_n 2, 1), (60, .aload_n 0, 1), (61, .getfield 49, 3), (64, .iload_n 2, 1), (65, .iaload, 1), (66, .iconst 3, 1), (67, .if_icmp .ge 7, 3), (70, .iconst 1, 1), (71, .goto 4, 3), (74, .iconst 0, 1), (75, .invokestatic 142, 3), (78, .putfield 133, 3), (81, .aload_n 0, 1), (82, .aload_n 0, 1), (83, .getfield 136, 3), (86, .iload_n 2, 1), (87, .aload_n 0, 1), (88, .getfield 49, 3), (91, .iload_n 2, 1), (92, .iaload, 1), (93, .iconst 1, 1), (94, .if_icmp .eq 13, 3), (97, .aload_n 0, 1), (98, .getfield 49, 3), (101, .iload_n 2, 1), (102, .iaload, 1), (103, .iconst 2, 1), (104, .if_icmp .ne 7, 3), (107, .iconst 1, 1), (108, .goto 4, 3), (111, .iconst 0, 1), (112, .invokestatic 142, 3), (115, .putfield 136, 3), (118, .aload_n 0, 1), (119, .aload_n 0, 1), (120, .getfield 139, 3), (123, .iload_n 2, 1), (124, .aload_n 0, 1), (125, .getfield 49, 3), (128, .iload_n 2, 1), (129, .iaload, 1), (130, .iconst 2, 1), (131, .if_icmp .ne 7, 3), (134, .iconst 1, 1), (135, .goto 4, 3), (138, .iconst 0, 1), (139, .invokestatic 142, 3), (142, .putfield 139, 3), (145, .iinc 2 1, 3), (148, .goto (-131), 3), (151, .iconst 1, 1), (152, .ireturn, 1)]
def gC94 : List (Nat × Instr × Nat) := [(0, .iconst 0, 1), (1, .istore_n 2, 1), (2, .aload_n 0, 1), (3, .iconst (-1), 1), (4, .putfield 34, 3), (7, .aload_n 0, 1), (8, .iconst (-1), 1), (9, .putfield 37, 3), (12, .iconst 0, 1), (13, .istore_n 3, 1), (14, .iload_n 3, 1), (15, .bipush 64, 2), (17, .if_icmp .ge 133, 3), (20, .iload_n 3, 1), (21, .istore 4, 2), (23, .iload 4, 2), (25, .bipush 64, 2), (27, .if_icmp .ge 117, 3), (30, .aload_n 0, 1), (31, .getfield 40, 3), (34, .getfield 66, 3), (37, .iload_n 3, 1), (38, .invokevirtual 72, 3), (41, .ifCond .eq 103, 3), (44, .aload_n 0, 1), (45, .getfield 40, 3), (48, .getfield 66, 3), (51, .iload 4, 2), (53, .invokevirtual 72, 3), (56, .ifCond .eq 82, 3), (59, .aload_n 0, 1), (60, .getfield 55, 3), (63, .lconst 1, 1), (64, .iload_n 3, 1), (65, .lshl, 1), (66, .lconst 1, 1), (67, .iload 4, 2), (69, .lshl, 1), (70, .lor, 1), (71, .aload_n 0, 1), (72, .getfield 40, 3), (75, .getfield 106, 3), (78, .invokevirtual 146, 3), (81, .aload_n 0, 1), (82, .getfield 55, 3), (85, .iload_n 1, 1), (86, .invokevirtual 150, 3), (89, .aload_n 0, 1), (90, .invokevirtual 154, 3), (93, .ifCond .eq 45, 3), (96, .aload_n 0, 1), (97, .iload_n 2, 1), (98, .ifCond .ne 7, 3), (101, .iload_n 3, 1), (102, .goto 7, 3), (105, .aload_n 0, 1), (106, .getfield 34, 3), (109, .putfield 34, 3), (112, .aload_n 0, 1), (113, .iload_n 2, 1), (114, .ifCond .ne 14, 3), (117, .iload 4, 2), (119, .iload_n 3, 1), (120, .if_icmp .eq 8, 3), (123, .iload 4, 2), (125, .goto 7, 3), (128, .aload_n 0, 1), (129, .getfield 37, 3), (132, .putfield 37, 3), (135, .iinc 2 1, 3), (138, .iinc 4 1, 3), (141, .goto (-118), 3), (144, .iinc 3 1, 3), (147, .goto (-133), 3), (150, .iload_n 2, 1), (151, .ireturn, 1)]
def gC95 : List (Nat × Instr × Nat) := [(0, .aload_n 0, 1), (1, .getfield 55, 3), (4, .getfield 158, 3), (7, .aload_n 0, 1), (8, .getfield 133, 3), (11, .land, 1), (12, .aload_n 0, 1), (13, .getfield 136, 3), (16, .lcmp, 1), (17, .ifCond .ne 27, 3), (20, .aload_n 0, 1), (21, .getfield 55, 3), (24, .getfield 161, 3), (27, .aload_n 0, 1), (28, .getfield 133, 3), (31, .land, 1), (32, .aload_n 0, 1), (33, .getfield 139, 3), (36, .lcmp, 1), (37, .ifCond .ne 7, 3), (40, .iconst 1, 1), (41, .goto 4, 3), (44, .iconst 0, 1), (45, .ireturn, 1)]
def gC96 : List (Nat × Instr × Nat) := [(0, .aload_n 0, 1), (1, .getfield 55, 3), (4, .lload_n 1, 1), (5, .aload_n 0, 1), (6, .getfield 40, 3), (9, .getfield 106, 3), (12, .invokevirtual 146, 3), (15, .aload_n 0, 1), (16, .getfield 59, 3), (19, .lload_n 3, 1), (20, .aload_n 0, 1), (21, .getfield 40, 3), (24, .getfield 106, 3), (27, .invokevirtual 146, 3), (30, .iconst 0, 1), (31, .istore 5, 2), (33, .iload 5, 2), (35, .bipush 60, 2), (37, .if_icmp .gt 66, 3), (40, .aload_n 0, 1), (41, .getfield 55, 3), (44, .iload 5, 2), (46, .invokevirtual 150, 3), (49, .aload_n 0, 1), (50, .getfield 59, 3), (53, .iload 5, 2), (55, .invokevirtual 150, 3), (58, .aload_n 0, 1), (59, .getfield 55, 3), (62, .getfield 158, 3), (65, .aload_n 0, 1), (66, .getfield 59, 3), (69, .getfield 158, 3), (72, .lcmp, 1), (73, .ifCond .ne 21, 3), (76, .aload_n 0, 1), (77, .getfield 55, 3), (80, .getfield 161, 3), (83, .aload_n 0, 1), (84, .getfield 59, 3), (87, .getfield 161, 3), (90, .lcmp, 1), (91, .ifCond .eq 6, 3), (94, .iload 5, 2), (96, .ireturn, 1), (97, .iinc 5 1, 3), (100, .goto (-67), 3), (103, .iconst (-1), 1), (104, .ireturn, 1)]
def gC97 : List (Nat × Instr × Nat) := [(0, .aload_n 0, 1), (1, .getfield 40, 3), (4, .getfield 66, 3), (7, .astore_n 2, 1), (8, .iconst 0, 1), (9, .istore_n 3, 1), (10, .iload_n 3, 1), (11, .bipush 64, 2), (13, .if_icmp .ge 114, 3), (16, .iload_n 3, 1), (17, .iconst 1, 1), (18, .iadd, 1), (19, .istore 4, 2), (21, .iload 4, 2), (23, .bipush 64, 2), (25, .if_icmp .ge 96, 3), (28, .aload_n 2, 1), (29, .iload_n 3, 1), (30, .invokevirtual 72, 3), (33, .ifCond .eq 88, 3), (36, .aload_n 2, 1), (37, .iload 4, 2), (39, .invokevirtual 72, 3), (42, .ifCond .eq 73, 3), (45, .aload_n 2, 1), (46, .getfield 164, 3), (49, .iload_n 3, 1), (50, .iaload, 1), (51, .aload_n 2, 1), (52, .getfield 164, 3), (55, .iload 4, 2), (57, .iaload, 1), (58, .if_icmp .eq 57, 3), (61, .aload_n 2, 1), (62, .iload_n 3, 1), (63, .iload 4, 2), (65, .invokevirtual 167, 3), (68, .aload_n 0, 1), (69, .getfield 55, 3), (72, .aload_n 0, 1), (73, .getfield 40, 3), (76, .getfield 89, 3), (79, .aload_n 0, 1), (80, .getfield 40, 3), (83, .getfield 106, 3), (86, .iload_n 1, 1), (87, .iconst 1, 1), (88, .iadd, 1), (89, .invokevirtual 109, 3), (92, .istore 5, 2), (94, .aload_n 2, 1), (95, .iload_n 3, 1), (96, .iload 4, 2), (98, .invokevirtual 167, 3), (101, .iload 5, 2), (103, .iload_n 1, 1), (104, .if_icmp .le 11, 3), (107, .iload_n 3, 1), (108, .bipush 64, 2), (110, .imul, 1), (111, .iload 4, 2), (113, .iadd, 1), (114, .ireturn, 1), (115, .iinc 4 1, 3), (118, .goto (-97), 3), (121, .iinc 3 1, 3), (124, .goto (-114), 3), (127, .iconst (-1), 1), (128, .ireturn, 1)]
def gC98 : List (Nat × Instr × Nat) := [(0, .aload_n 0, 1), (1, .invokespecial 1, 3), (4, .aload_n 0, 1), (5, .new 7, 3), (8, .dup, 1), (9, .invokespecial 9, 3), (12, .putfield 10, 3), (15, .aload_n 0, 1), (16, .new 16, 3), (19, .dup, 1), (20, .invokespecial 18, 3), (23, .putfield 19, 3), (26, .aload_n 0, 1), (27, .new 16, 3), (30, .dup, 1), (31, .invokespecial 18, 3), (34, .putfield 23, 3), (37, .aload_n 0, 1), (38, .iconst 2, 1), (39, .anewarray 16, 3), (42, .putfield 26, 3), (45, .aload_n 0, 1), (46, .new 30, 3), (49, .dup, 1), (50, .aload_n 0, 1), (51, .getfield 10, 3), (54, .invokespecial 32, 3), (57, .putfield 35, 3), (60, .aload_n 0, 1), (61, .new 39, 3), (64, .dup, 1), (65, .aload_n 0, 1), (66, .getfield 35, 3), (69, .aload_n 0, 1), (70, .getfield 23, 3), (73, .getfield 41, 3), (76, .invokespecial 45, 3), (79, .putfield 48, 3), (82, .aload_n 0, 1), (83, .new 52, 3), (86, .dup, 1), (87, .aload_n 0, 1), (88, .getfield 35, 3), (91, .aload_n 0, 1), (92, .getfield 19, 3), (95, .getfield 41, 3), (98, .aload_n 0, 1), (99, .getfield 23, 3), (102, .invokespecial 54, 3), (105, .putfield 57, 3), (108, .aload_n 0, 1), (109, .new 61, 3), (112, .dup, 1), (113, .aload_n 0, 1), (114, .getfield 19, 3), (117, .invokespecial 63, 3), (120, .putfield 66, 3), (123, .aload_n 0, 1), (124, .new 70, 3), (127, .dup, 1), (128, .aload_n 0, 1), (129, .getfield 19, 3), (132, .aload_n 0, 1), (133, .getfield 10, 3), (136, .invokespecial 72, 3), (139, .putfield 75, 3), (142, .aload_n 0, 1), (143, .iconst 0, 1), (144, .putfield 79, 3), (147, .aload_n 0, 1), (148, .iconst 0, 1), (149, .putfield 83, 3), (152, .return_, 1)]
def gC99 : List (Nat × Instr × Nat) := [(0, .aload_n 0, 1), (1, .getfield 10, 3), (4, .getfield 86, 3), (7, .bipush 20, 2), (9, .iadd, 1), (10, .sipush 940, 3), (13, .if_icmp .le 5, 3), (16, .iconst (-1), 1), (17, .ireturn, 1), (18, .aload_n 0, 1), (19, .getfield 10, 3), (22, .iload_n 1, 1), (23, .invokevirtual 89, 3), (26, .aload_n 0, 1), (27, .getfield 10, 3), (30, .iload_n 2, 1), (31, .invokevirtual 89, 3), (34, .aload_n 0, 1), (35, .getfield 10, 3), (38, .iload_n 3, 1), (39, .invokevirtual 89, 3), (42, .aload_n 0, 1), (43, .getfield 10, 3), (46, .iload 4, 2), (48, .invokevirtual 89, 3), (51, .aload_n 0, 1), (52, .getfield 10, 3), (55, .iload 5, 2), (57, .invokevirtual 89, 3), (60, .aload_n 0, 1), (61, .getfield 10, 3), (64, .getfield 86, 3), (67, .ireturn, 1)]
def gC100 : List (Nat × Instr × Nat) := [(0, .iload_n 1, 1), (1, .ifCond .lt 14, 3), (4, .iload_n 1, 1), (5, .aload_n 0, 1), (6, .getfield 10, 3), (9, .getfield 86, 3), (12, .if_icmp .le 5, 3), (15, .iconst 0, 1), (16, .ireturn, 1), (17, .aload_n 0, 1), (18, .getfield 10, 3), (21, .iload_n 1, 1), (22, .putfield 86, 3), (25, .iconst 1, 1), (26, .ireturn, 1)]
def gC101 : List (Nat × Instr × Nat) := [(0, .aload_n 0, 1), (1, .getfield 23, 3), (4, .invokevirtual 93, 3), (7, .aload_n 0, 1), (8, .getfield 35, 3), (11, .aload_n 0, 1), (12, .getfield 10, 3), (15, .invokevirtual 96, 3), (18, .sipush 900, 3), (21, .invokevirtual 100, 3), (24, .aload_n 0, 1), (25, .getfield 48, 3), (28, .invokevirtual 104, 3), (31, .iconst 0, 1), (32, .istore_n 1, 1), (33, .iload_n 1, 1), (34, .sipush 900, 3), (37, .if_icmp .ge 30, 3), (40, .aload_n 0, 1), (41, .getfield 35, 3), (44, .getfield 106, 3), (47, .iconst 1, 1), (48, .if_icmp .eq 19, 3), (51, .aload_n 0, 1), (52, .getfield 48, 3), (55, .invokevirtual 109, 3), (58, .ifCond .eq 9, 3), (61, .iinc 1 1, 3), (64, .goto (-31), 3), (67, .aload_n 0, 1), (68, .aload_n 0, 1), (69, .getfield 35, 3), (72, .getfield 113, 3), (75, .putfield 79, 3), (78, .aload_n 0, 1), (79, .getfield 79, 3), (82, .ifCond .eq 13, 3), (85, .iconst (-1), 1), (86, .aload_n 0, 1), (87, .getfield 35, 3), (90, .getfield 114, 3), (93, .isub, 1), (94, .ireturn, 1), (95, .aload_n 0, 1), (96, .getfield 23, 3), (99, .getfield 41, 3), (102, .invokevirtual 117, 3), (105, .aload_n 0, 1), (106, .getfield 19, 3), (109, .aload_n 0, 1), (110, .getfield 23, 3), (113, .invokevirtual 122, 3), (116, .aload_n 0, 1), (117, .getfield 66, 3), (120, .invokevirtual 125, 3), (123, .iload_n 1, 1), (124, .ireturn, 1)]
def gC102 : List (Nat × Instr × Nat) := [(0, .aload_n 0, 1), (1, .getfield 79, 3), (4, .ireturn, 1)]
def gC103 : List (Nat × Instr × Nat) := [(0, .aload_n 0, 1), (1, .getfield 19, 3), (4, .getfield 41, 3), (7, .iload_n 1, 1), (8, .invokevirtual 128, 3), (11, .ifCond .eq 12, 3), (14, .iload_n 2, 1), (15, .ifCond .lt 8, 3), (18, .iload_n 2, 1), (19, .iconst 4, 1), (20, .if_icmp .le 11, 3), (23, .new 132, 3), (26, .dup, 1), (27, .invokespecial 134, 3), (30, .athrow, 1), (31, .iload_n 2, 1), (32, .tableswitch 81 0 3 #[32, 45, 57, 69], 32), (64, .aload_n 0, 1), (65, .getfield 19, 3), (68, .getfield 41, 3), (71, .getfield 135, 3), (74, .iload_n 1, 1), (75, .iaload, 1), (76, .ireturn, 1), (77, .aload_n 0, 1), (78, .getfield 19, 3), (81, .getfield 41, 3), (84, .iload_n 1, 1), (85, .invokevirtual 139, 3), (88, .ireturn, 1), (89, .aload_n 0, 1), (90, .getfield 19, 3), (93, .getfield 41, 3), (96, .iload_n 1, 1), (97, .invokevirtual 143, 3), (100, .ireturn, 1), (101, .aload_n 0, 1), (102, .getfield 19, 3), (105, .getfield 146, 3), (108, .iload_n 1, 1), (109, .invokestatic 150, 3), (112, .ireturn, 1), (113, .aload_n 0, 1), (114, .getfield 19, 3), (117, .getfield 154, 3), (120, .iload_n 1, 1), (121, .invokestatic 150, 3), (124, .ireturn, 1)]
def gC104 : List (Nat × Instr × Nat) := [(0, .iload_n 1, 1), (1, .ifCond .lt 18, 3), (4, .iload_n 1, 1), (5, .bipush 6, 2), (7, .if_icmp .ge 12, 3), (10, .iload_n 2, 1), (11, .ifCond .lt 8, 3), (14, .iload_n 2, 1), (15, .iconst 1, 1), (16, .if_icmp .le 5, 3), (19, .iconst (-1), 1), (20, .ireturn, 1), (21, .aload_n 0, 1), (22, .getfield 19, 3), (25, .getfield 41, 3), (28, .getfield 157, 3), (31, .iconst 2, 1), (32, .iload_n 1, 1), (33, .imul, 1), (34, .iload_n 2, 1), (35, .iadd, 1), (36, .iaload, 1), (37, .ireturn, 1)]
def gC105 : List (Nat × Instr × Nat) := [(0, .aload_n 0, 1), (1, .getfield 19, 3), (4, .getfield 41, 3), (7, .iload_n 1, 1), (8, .invokevirtual 128, 3), (11, .ifCond .eq 12, 3), (14, .iload_n 2, 1), (15, .ifCond .lt 8, 3), (18, .iload_n 2, 1), (19, .iconst 1, 1), (20, .if_icmp .le 5, 3), (23, .iconst 0, 1), (24, .ireturn, 1), (25, .aload_n 0, 1), (26, .getfield 19, 3), (29, .aload_n 0, 1), (30, .getfield 19, 3), (33, .getfield 146, 3), (36, .iload_n 1, 1), (37, .iload_n 2, 1), (38, .invokestatic 160, 3), (41, .putfield 146, 3), (44, .aload_n 0, 1), (45, .getfield 66, 3), (48, .invokevirtual 125, 3), (51, .iconst 1, 1), (52, .ireturn, 1)]
def gC106 : List (Nat × Instr × Nat) := [(0, .aload_n 0, 1), (1, .getfield 19, 3), (4, .getfield 41, 3), (7, .iload_n 1, 1), (8, .invokevirtual 128, 3), (11, .ifCond .eq 12, 3), (14, .iload_n 2, 1), (15, .ifCond .lt 8, 3), (18, .iload_n 2, 1), (19, .iconst 1, 1), (20, .if_icmp .le 5, 3), (23, .iconst 0, 1), (24, .ireturn, 1), (25, .aload_n 0, 1), (26, .getfield 19, 3), (29, .aload_n 0, 1), (30, .getfield 19, 3), (33, .getfield 154, 3), (36, .iload_n 1, 1), (37, .iload_n 2, 1), (38, .invokestatic 160, 3), (41, .putfield 154, 3), (44, .aload_n 0, 1), (45, .getfield 66, 3), (48, .invokevirtual 125, 3), (51, .iconst 1, 1), (52, .ireturn, 1)]
def gC107 : List (Nat × Instr × Nat) := [(0, .aload_n 0, 1), (1, .getfield 35, 3), (4, .aload_n 0, 1), (5, .getfield 10, 3), (8, .invokevirtual 96, 3), (11, .sipush 400, 3), (14, .invokevirtual 100, 3), (17, .aload_n 0, 1), (18, .getfield 57, 3), (21, .invokevirtual 164, 3), (24, .aload_n 0, 1), (25, .aload_n 0, 1), (26, .getfield 35, 3), (29, .getfield 113, 3), (32, .putfield 79, 3), (35, .aload_n 0, 1), (36, .getfield 79, 3), (39, .ifCond .eq 13, 3), (42, .iconst (-1), 1), (43, .aload_n 0, 1), (44, .getfield 35, 3), (47, .getfield 114, 3), (50, .isub, 1), (51, .ireturn, 1), (52, .aload_n 0, 1), (53, .getfield 19, 3), (56, .aload_n 0, 1), (57, .getfield 23, 3), (60, .invokevirtual 167, 3), (63, .aload_n 0, 1), (64, .getfield 66, 3), (67, .invokevirtual 125, 3), (70, .aload_n 0, 1), (71, .getfield 19, 3), (74, .getfield 170, 3), (77, .ireturn, 1)]
def gC108 : List (Nat × Instr × Nat) := [(0, .iload_n 1, 1), (1, .ifCond .lt 23, 3), (4, .iload_n 1, 1), (5, .aload_n 0, 1), (6, .getfield 19, 3), (9, .getfield 170, 3), (12, .if_icmp .ge 12, 3), (15, .iload_n 2, 1), (16, .ifCond .lt 8, 3), (19, .iload_n 2, 1), (20, .iconst 2, 1), (21, .if_icmp .le 11, 3), (24, .new 132, 3), (27, .dup, 1), (28, .invokespecial 134, 3), (31, .athrow, 1), (32, .iload_n 2, 1), (33, .ifCond .ne 13, 3), (36, .aload_n 0, 1), (37, .getfield 19, 3), (40, .getfield 173, 3), (43, .iload_n 1, 1), (44, .iaload, 1), (45, .ireturn, 1), (46, .iload_n 2, 1), (47, .iconst 1, 1), (48, .if_icmp .ne 15, 3), (51, .aload_n 0, 1), (52, .getfield 19, 3), (55, .getfield 176, 3), (58, .iload_n 1, 1), (59, .iaload, 1), (60, .goto 12, 3), (63, .aload_n 0, 1), (64, .getfield 19, 3), (67, .getfield 179, 3), (70, .iload_n 1, 1), (71, .iaload, 1), (72, .ireturn, 1)]
def gC109 : List (Nat × Instr × Nat) := [(0, .aload_n 0, 1), (1, .getfield 19, 3), (4, .getfield 41, 3), (7, .iload_n 1, 1), (8, .invokevirtual 128, 3), (11, .ifCond .eq 10, 3), (14, .iload_n 2, 1), (15, .invokestatic 182, 3), (18, .ifCond .ne 5, 3), (21, .iconst (-1), 1), (22, .ireturn, 1), (23, .iload_n 3, 1), (24, .ifCond .lt 21, 3), (27, .iload_n 3, 1), (28, .bipush 6, 2), (30, .if_icmp .ge 15, 3), (33, .iload 4, 2), (35, .iconst 1, 1), (36, .if_icmp .lt 9, 3), (39, .iload 4, 2), (41, .iconst 2, 1), (42, .if_icmp .le 5, 3), (45, .iconst (-1), 1), (46, .ireturn, 1), (47, .aload_n 0, 1), (48, .getfield 66, 3), (51, .iload_n 2, 1), (52, .invokevirtual 185, 3), (55, .istore 5, 2), (57, .iload 4, 2), (59, .iconst 1, 1), (60, .if_icmp .ne 16, 3), (63, .aload_n 0, 1), (64, .getfield 66, 3), (67, .getfield 188, 3), (70, .iload 5, 2), (72, .laload, 1), (73, .goto 13, 3), (76, .aload_n 0, 1), (77, .getfield 66, 3), (80, .getfield 192, 3), (83, .iload 5, 2), (85, .laload, 1), (86, .lstore 6, 2), (88, .lload 6, 2), (90, .aload_n 0, 1), (91, .getfield 19, 3), (94, .getfield 41, 3), (97, .getfield 195, 3), (100, .iload_n 3, 1), (101, .bipush 64, 2), (103, .imul, 1), (104, .iload_n 1, 1), (105, .iadd, 1), (106, .laload, 1), (107, .land, 1), (108, .invokestatic 198, 3), (111, .ireturn, 1)]
def gC110 : List (Nat × Instr × Nat) := [(0, .aload_n 0, 1), (1, .getfield 19, 3), (4, .getfield 41, 3), (7, .iload_n 1, 1), (8, .invokevirtual 128, 3), (11, .ifCond .eq 19, 3), (14, .iload_n 2, 1), (15, .invokestatic 182, 3), (18, .ifCond .eq 12, 3), (21, .iload_n 3, 1), (22, .ifCond .lt 8, 3), (25, .iload_n 3, 1), (26, .iconst 1, 1), (27, .if_icmp .le 5, 3), (30, .iconst (-1), 1), (31, .ireturn, 1), (32, .aload_n 0, 1), (33, .getfield 66, 3), (36, .iload_n 2, 1), (37, .invokevirtual 185, 3), (40, .istore 4, 2), (42, .iload_n 3, 1), (43, .ifCond .ne 33, 3), (46, .aload_n 0, 1), (47, .getfield 66, 3), (50, .getfield 188, 3), (53, .iload 4, 2), (55, .laload, 1), (56, .iload_n 1, 1), (57, .invokestatic 150, 3), (60, .aload_n 0, 1), (61, .getfield 66, 3), (64, .getfield 192, 3), (67, .iload 4, 2), (69, .laload, 1), (70, .iload_n 1, 1), (71, .invokestatic 150, 3), (74, .iadd, 1), (75, .ireturn, 1), (76, .aload_n 0, 1), (77, .getfield 66, 3), (80, .getfield 204, 3), (83, .iload 4, 2), (85, .laload, 1), (86, .iload_n 1, 1), (87, .invokestatic 150, 3), (90, .iconst 2, 1), (91, .aload_n 0, 1), (92, .getfield 66, 3), (95, .getfield 207, 3), (98, .iload 4, 2), (100, .laload, 1), (101, .iload_n 1, 1), (102, .invokestatic 150, 3), (105, .imul, 1), (106, .iadd, 1), (107, .ireturn, 1)]
def gC111 : List (Nat × Instr × Nat) := [(0, .iload_n 1, 1), (1, .invokestatic 182, 3), (4, .ifCond .eq 12, 3), (7, .iload_n 2, 1), (8, .ifCond .lt 8, 3), (11, .iload_n 2, 1), (12, .iconst 2, 1), (13, .if_icmp .le 5, 3), (16, .iconst (-1), 1), (17, .ireturn, 1), (18, .iload_n 2, 1), (19, .ifCond .ne 17, 3), (22, .aload_n 0, 1), (23, .getfield 19, 3), (26, .getfield 41, 3), (29, .getfield 210, 3), (32, .invokestatic 198, 3), (35, .ireturn, 1), (36, .aload_n 0, 1), (37, .getfield 66, 3), (40, .iload_n 1, 1), (41, .invokevirtual 185, 3), (44, .istore_n 3, 1), (45, .iload_n 2, 1), (46, .iconst 1, 1), (47, .if_icmp .ne 15, 3), (50, .aload_n 0, 1), (51, .getfield 66, 3), (54, .getfield 188, 3), (57, .iload_n 3, 1), (58, .laload, 1), (59, .goto 12, 3), (62, .aload_n 0, 1), (63, .getfield 66, 3), (66, .getfield 192, 3), (69, .iload_n 3, 1), (70, .laload, 1), (71, .invokestatic 198, 3), (74, .ireturn, 1)]
def gC112 : List (Nat × Instr × Nat) := [(0, .aload_n 0, 1), (1, .getfield 19, 3), (4, .getfield 41, 3), (7, .iload_n 1, 1), (8, .invokevirtual 128, 3), (11, .ifCond .eq 19, 3), (14, .iload_n 2, 1), (15, .invokestatic 182, 3), (18, .ifCond .eq 12, 3), (21, .iload_n 3, 1), (22, .ifCond .lt 8, 3), (25, .iload_n 3, 1), (26, .iconst 1, 1), (27, .if_icmp .le 5, 3), (30, .iconst (-1), 1), (31, .ireturn, 1), (32, .iconst 2, 1), (33, .aload_n 0, 1), (34, .getfield 19, 3), (37, .getfield 41, 3), (40, .getfield 135, 3), (43, .iload_n 1, 1), (44, .iaload, 1), (45, .imul, 1), (46, .iload_n 3, 1), (47, .iadd, 1), (48, .istore 4, 2), (50, .aload_n 0, 1), (51, .getfield 19, 3), (54, .getfield 41, 3), (57, .getfield 157, 3), (60, .iload 4, 2), (62, .iaload, 1), (63, .iconst (-1), 1), (64, .if_icmp .ne 5, 3), (67, .iconst (-1), 1), (68, .ireturn, 1), (69, .aload_n 0, 1), (70, .getfield 75, 3), (73, .getfield 213, 3), (76, .aload_n 0, 1), (77, .getfield 66, 3), (80, .aload_n 0, 1), (81, .getfield 66, 3), (84, .iload_n 2, 1), (85, .invokevirtual 185, 3), (88, .invokevirtual 217, 3), (91, .aload_n 0, 1), (92, .getfield 75, 3), (95, .getfield 213, 3), (98, .iload 4, 2), (100, .iload_n 1, 1), (101, .invokevirtual 223, 3), (104, .ifCond .eq 7, 3), (107, .iconst 1, 1), (108, .goto 4, 3), (111, .iconst 0, 1), (112, .ireturn, 1)]
def gC113 : List (Nat × Instr × Nat) := [(0, .aload_n 0, 1), (1, .getfield 19, 3), (4, .getfield 41, 3), (7, .iload_n 1, 1), (8, .invokevirtual 128, 3), (11, .ifCond .ne 5, 3), (14, .iconst (-1), 1), (15, .ireturn, 1), (16, .iconst 0, 1), (17, .istore_n 2, 1), (18, .iload_n 2, 1), (19, .sipush 600, 3), (22, .if_icmp .gt 44, 3), (25, .aload_n 0, 1), (26, .getfield 66, 3), (29, .iload_n 2, 1), (30, .invokevirtual 185, 3), (33, .istore_n 3, 1), (34, .iload_n 3, 1), (35, .iload_n 2, 1), (36, .if_icmp .ge 5, 3), (39, .iconst (-1), 1), (40, .ireturn, 1), (41, .aload_n 0, 1), (42, .getfield 66, 3), (45, .getfield 192, 3), (48, .iload_n 3, 1), (49, .laload, 1), (50, .iload_n 1, 1), (51, .invokestatic 150, 3), (54, .iconst 1, 1), (55, .if_icmp .ne 5, 3), (58, .iload_n 2, 1), (59, .ireturn, 1), (60, .iinc 2 1, 3), (63, .goto (-45), 3), (66, .iconst (-1), 1), (67, .ireturn, 1)]
def gC114 : List (Nat × Instr × Nat) := [(0, .iload_n 1, 1), (1, .invokestatic 182, 3), (4, .ifCond .ne 5, 3), (7, .iconst (-1), 1), (8, .ireturn, 1), (9, .aload_n 0, 1), (10, .getfield 75, 3), (13, .getfield 213, 3), (16, .lconst 0, 1), (17, .aload_n 0, 1), (18, .getfield 19, 3), (21, .getfield 154, 3), (24, .invokevirtual 227, 3), (27, .aload_n 0, 1), (28, .getfield 75, 3), (31, .getfield 213, 3), (34, .iload_n 1, 1), (35, .invokevirtual 231, 3), (38, .aload_n 0, 1), (39, .getfield 66, 3), (42, .getfield 192, 3), (45, .aload_n 0, 1), (46, .getfield 66, 3), (49, .iload_n 1, 1), (50, .invokevirtual 185, 3), (53, .laload, 1), (54, .aload_n 0, 1), (55, .getfield 75, 3), (58, .getfield 213, 3), (61, .getfield 234, 3), (64, .land, 1), (65, .invokestatic 198, 3), (68, .ireturn, 1)]
def gC115 : List (Nat × Instr × Nat) := [(0, .iconst 0, 1), (1, .istore_n 1, 1), (2, .iload_n 1, 1), (3, .sipush 600, 3), (6, .if_icmp .gt 38, 3), (9, .aload_n 0, 1), (10, .getfield 66, 3), (13, .iload_n 1, 1), (14, .invokevirtual 185, 3), (17, .istore_n 2, 1), (18, .iload_n 2, 1), (19, .iload_n 1, 1), (20, .if_icmp .ge 5, 3), (23, .iconst (-1), 1), (24, .ireturn, 1), (25, .aload_n 0, 1), (26, .getfield 66, 3), (29, .iload_n 2, 1), (30, .invokevirtual 236, 3), (33, .ifCond .eq 5, 3), (36, .iload_n 1, 1), (37, .ireturn, 1), (38, .iinc 1 1, 3), (41, .goto (-39), 3), (44, .iconst (-1), 1), (45, .ireturn, 1)]
def gC116 : List (Nat × Instr × Nat) := [(0, .iload_n 1, 1), (1, .invokestatic 182, 3), (4, .ifCond .ne 5, 3), (7, .iconst (-1), 1), (8, .ireturn, 1), (9, .iconst 0, 1), (10, .istore_n 2, 1), (11, .iconst 0, 1), (12, .istore_n 3, 1), (13, .iconst 0, 1), (14, .istore 4, 2), (16, .iload 4, 2), (18, .iload_n 1, 1), (19, .if_icmp .gt 55, 3), (22, .aload_n 0, 1), (23, .getfield 66, 3), (26, .iload 4, 2), (28, .invokevirtual 185, 3), (31, .istore 5, 2), (33, .iload 5, 2), (35, .iload 4, 2), (37, .if_icmp .ge 5, 3), (40, .iload_n 2, 1), (41, .ireturn, 1), (42, .aload_n 0, 1), (43, .getfield 66, 3), (46, .iload 5, 2), (48, .invokevirtual 236, 3), (51, .istore 6, 2), (53, .iload 6, 2), (55, .ifCond .eq 10, 3), (58, .iload_n 3, 1), (59, .ifCond .ne 6, 3), (62, .iinc 2 1, 3), (65, .iload 6, 2), (67, .istore_n 3, 1), (68, .iinc 4 1, 3), (71, .goto (-55), 3), (74, .iload_n 2, 1), (75, .ireturn, 1)]
def gC117 : List (Nat × Instr × Nat) := [(0, .iload_n 1, 1), (1, .ifCond .lt 8, 3), (4, .iload_n 1, 1), (5, .iconst 1, 1), (6, .if_icmp .le 5, 3), (9, .iconst (-1), 1), (10, .ireturn, 1), (11, .aload_n 0, 1), (12, .getfield 19, 3), (15, .invokevirtual 239, 3), (18, .istore_n 2, 1), (19, .iload_n 2, 1), (20, .sipush 600, 3), (23, .if_icmp .ge 35, 3), (26, .aload_n 0, 1), (27, .getfield 66, 3), (30, .iload_n 2, 1), (31, .invokevirtual 242, 3), (34, .istore_n 3, 1), (35, .iload_n 3, 1), (36, .iconst (-1), 1), (37, .if_icmp .eq 15, 3), (40, .iload_n 1, 1), (41, .ifCond .ne 7, 3), (44, .iload_n 2, 1), (45, .goto 6, 3), (48, .iload_n 3, 1), (49, .iload_n 2, 1), (50, .isub, 1), (51, .ireturn, 1), (52, .iinc 2 1, 3), (55, .goto (-36), 3), (58, .iconst (-1), 1), (59, .ireturn, 1)]
def gC118 : List (Nat × Instr × Nat) := [(0, .iload_n 1, 1), (1, .ifCond .lt 8, 3), (4, .iload_n 1, 1), (5, .iconst 1, 1), (6, .if_icmp .le 5, 3), (9, .iconst (-1), 1), (10, .ireturn, 1), (11, .aload_n 0, 1), (12, .getfield 66, 3), (15, .invokevirtual 245, 3), (18, .istore_n 2, 1), (19, .iload_n 1, 1), (20, .iconst 1, 1), (21, .if_icmp .ne 5, 3), (24, .iload_n 2, 1), (25, .ireturn, 1), (26, .iload_n 2, 1), (27, .aload_n 0, 1), (28, .getfield 19, 3), (31, .getfield 41, 3), (34, .getfield 248, 3), (37, .if_icmp .lt 7, 3), (40, .iconst 1, 1), (41, .goto 4, 3), (44, .iconst 0, 1), (45, .ireturn, 1)]
def gC119 : List (Nat × Instr × Nat) := [(0, .aload_n 0, 1), (1, .getfield 10, 3), (4, .invokevirtual 96, 3), (7, .istore_n 1, 1), (8, .aload_n 0, 1), (9, .getfield 75, 3), (12, .iload_n 1, 1), (13, .invokevirtual 251, 3), (16, .ifCond .eq 14, 3), (19, .aload_n 0, 1), (20, .getfield 75, 3), (23, .iload_n 1, 1), (24, .invokevirtual 254, 3), (27, .goto 5, 3), (30, .bipush (-2), 2), (32, .ireturn, 1)]
def gC120 : List (Nat × Instr × Nat) := [(0, .aload_n 0, 1), (1, .getfield 75, 3), (4, .getfield 257, 3), (7, .ireturn, 1)]
def gC121 : List (Nat × Instr × Nat) := [(0, .aload_n 0, 1), (1, .getfield 10, 3), (4, .invokevirtual 96, 3), (7, .istore_n 1, 1), (8, .aload_n 0, 1), (9, .getfield 75, 3), (12, .iload_n 1, 1), (13, .invokevirtual 251, 3), (16, .ifCond .eq 14, 3), (19, .aload_n 0, 1), (20, .getfield 75, 3), (23, .iload_n 1, 1), (24, .invokevirtual 260, 3), (27, .goto 5, 3), (30, .bipush (-2), 2), (32, .ireturn, 1)]
def gC122 : List (Nat × Instr × Nat) := [(0, .aload_n 0, 1), (1, .getfield 10, 3), (4, .invokevirtual 96, 3), (7, .istore_n 2, 1), (8, .aload_n 0, 1), (9, .getfield 75, 3), (12, .iload_n 2, 1), (13, .invokevirtual 251, 3), (16, .ifCond .ne 6, 3), (19, .bipush (-2), 2), (21, .ireturn, 1), (22, .aload_n 0, 1), (23, .getfield 75, 3), (26, .iload_n 2, 1), (27, .invokevirtual 263, 3), (30, .istore_n 3, 1), (31, .iload_n 1, 1), (32, .iconst (-1), 1), (33, .if_icmp .ne 5, 3), (36, .iload_n 3, 1), (37, .ireturn, 1), (38, .iload_n 1, 1), (39, .ifCond .lt 20, 3), (42, .iload_n 1, 1), (43, .iload_n 3, 1), (44, .if_icmp .ge 15, 3), (47, .aload_n 0, 1), (48, .getfield 75, 3), (51, .getfield 266, 3), (54, .iload_n 1, 1), (55, .iaload, 1), (56, .goto 4, 3), (59, .iconst (-1), 1), (60, .ireturn, 1)]
def gC123 : List (Nat × Instr × Nat) := [(0, .aload_n 0, 1), (1, .getfield 10, 3), (4, .invokevirtual 96, 3), (7, .istore_n 1, 1), (8, .aload_n 0, 1), (9, .getfield 75, 3), (12, .iload_n 1, 1), (13, .invokevirtual 251, 3), (16, .ifCond .eq 14, 3), (19, .aload_n 0, 1), (20, .getfield 75, 3), (23, .iload_n 1, 1), (24, .invokevirtual 269, 3), (27, .goto 4, 3), (30, .iconst (-1), 1), (31, .ireturn, 1)]
def gC124 : List (Nat × Instr × Nat) := [(0, .iload_n 1, 1), (1, .ifCond .lt 23, 3), (4, .iload_n 1, 1), (5, .aload_n 0, 1), (6, .getfield 75, 3), (9, .getfield 272, 3), (12, .if_icmp .ge 12, 3), (15, .iload_n 2, 1), (16, .ifCond .lt 8, 3), (19, .iload_n 2, 1), (20, .iconst 1, 1), (21, .if_icmp .le 11, 3), (24, .new 132, 3), (27, .dup, 1), (28, .invokespecial 134, 3), (31, .athrow, 1), (32, .aload_n 0, 1), (33, .getfield 75, 3), (36, .aload_n 0, 1), (37, .getfield 75, 3), (40, .getfield 272, 3), (43, .invokevirtual 275, 3), (46, .istore_n 3, 1), (47, .aload_n 0, 1), (48, .getfield 75, 3), (51, .iload_n 3, 1), (52, .aload_n 0, 1), (53, .getfield 75, 3), (56, .getfield 278, 3), (59, .iload_n 1, 1), (60, .iaload, 1), (61, .invokestatic 281, 3), (64, .invokevirtual 286, 3), (67, .istore 4, 2), (69, .iload 4, 2), (71, .iconst 1, 1), (72, .if_icmp .ge 5, 3), (75, .iconst 0, 1), (76, .ireturn, 1), (77, .iload_n 2, 1), (78, .ifCond .ne 15, 3), (81, .aload_n 0, 1), (82, .getfield 75, 3), (85, .getfield 278, 3), (88, .iload_n 1, 1), (89, .iaload, 1), (90, .goto 4, 3), (93, .iload_n 3, 1), (94, .iload 4, 2), (96, .idiv, 1), (97, .ireturn, 1)]
def gC125 : List (Nat × Instr × Nat) := [(0, .aload_n 0, 1), (1, .getfield 10, 3), (4, .invokevirtual 96, 3), (7, .istore_n 1, 1), (8, .iload_n 1, 1), (9, .ifCond .le 15, 3), (12, .aload_n 0, 1), (13, .getfield 10, 3), (16, .getfield 290, 3), (19, .iconst 0, 1), (20, .iaload, 1), (21, .goto 4, 3), (24, .iconst 0, 1), (25, .istore_n 2, 1), (26, .iload_n 1, 1), (27, .iconst 1, 1), (28, .isub, 1), (29, .iload_n 2, 1), (30, .isub, 1), (31, .istore_n 3, 1), (32, .iload_n 2, 1), (33, .iconst 1, 1), (34, .if_icmp .lt 20, 3), (37, .iload_n 2, 1), (38, .bipush 6, 2), (40, .if_icmp .gt 14, 3), (43, .iload_n 3, 1), (44, .iconst 1, 1), (45, .if_icmp .lt 9, 3), (48, .iload_n 3, 1), (49, .bipush 6, 2), (51, .if_icmp .le 5, 3), (54, .iconst (-1), 1), (55, .ireturn, 1), (56, .aload_n 0, 1), (57, .getfield 75, 3), (60, .iconst 1, 1), (61, .iload_n 1, 1), (62, .invokevirtual 293, 3), (65, .ifCond .eq 15, 3), (68, .aload_n 0, 1), (69, .getfield 75, 3), (72, .iload_n 2, 1), (73, .iload_n 1, 1), (74, .invokevirtual 296, 3), (77, .goto 4, 3), (80, .iconst (-1), 1), (81, .ireturn, 1)]
def gC126 : List (Nat × Instr × Nat) := [(0, .iload_n 1, 1), (1, .tableswitch 51 0 2 #[27, 35, 43], 27), (28, .aload_n 0, 1), (29, .getfield 75, 3), (32, .getfield 299, 3), (35, .ireturn, 1), (36, .aload_n 0, 1), (37, .getfield 75, 3), (40, .getfield 302, 3), (43, .ireturn, 1), (44, .aload_n 0, 1), (45, .getfield 75, 3), (48, .getfield 305, 3), (51, .ireturn, 1), (52, .iconst (-1), 1), (53, .ireturn, 1)]
def gC127 : List (Nat × Instr × Nat) := [(0, .aload_n 0, 1), (1, .getfield 10, 3), (4, .invokevirtual 96, 3), (7, .istore_n 2, 1), (8, .iload_n 1, 1), (9, .ifCond .lt 30, 3), (12, .iload_n 1, 1), (13, .bipush 60, 2), (15, .if_icmp .gt 24, 3), (18, .aload_n 0, 1), (19, .invokevirtual 308, 3), (22, .ifCond .ne 17, 3), (25, .iload_n 2, 1), (26, .aload_n 0, 1), (27, .getfield 19, 3), (30, .getfield 41, 3), (33, .invokevirtual 311, 3), (36, .if_icmp .eq 5, 3), (39, .iconst (-1), 1), (40, .ireturn, 1), (41, .aload_n 0, 1), (42, .getfield 75, 3), (45, .iload_n 2, 1), (46, .invokevirtual 314, 3), (49, .ifCond .eq 14, 3), (52, .aload_n 0, 1), (53, .getfield 75, 3), (56, .iload_n 1, 1), (57, .invokevirtual 317, 3), (60, .goto 4, 3), (63, .iconst (-1), 1), (64, .ireturn, 1)]
def gC128 : List (Nat × Instr × Nat) := [(0, .iload_n 1, 1), (1, .ifCond .ne 11, 3), (4, .aload_n 0, 1), (5, .getfield 75, 3), (8, .getfield 320, 3), (11, .ireturn, 1), (12, .iload_n 1, 1), (13, .iconst 1, 1), (14, .if_icmp .ne 13, 3), (17, .aload_n 0, 1), (18, .getfield 75, 3), (21, .getfield 323, 3), (24, .goto 4, 3), (27, .iconst (-1), 1), (28, .ireturn, 1)]
def gC129 : List (Nat × Instr × Nat) := [(0, .aload_n 0, 1), (1, .getfield 19, 3), (4, .getfield 41, 3), (7, .iload_n 1, 1), (8, .invokevirtual 128, 3), (11, .ifCond .eq 17, 3), (14, .aload_n 0, 1), (15, .getfield 19, 3), (18, .getfield 41, 3), (21, .iload_n 2, 1), (22, .invokevirtual 128, 3), (25, .ifCond .ne 5, 3), (28, .iconst (-1), 1), (29, .ireturn, 1), (30, .aload_n 0, 1), (31, .getfield 75, 3), (34, .lconst 1, 1), (35, .iload_n 1, 1), (36, .lshl, 1), (37, .lconst 1, 1), (38, .iload_n 2, 1), (39, .lshl, 1), (40, .invokevirtual 326, 3), (43, .ireturn, 1)]
def gC130 : List (Nat × Instr × Nat) := [(0, .aload_n 0, 1), (1, .invokevirtual 308, 3), (4, .ifCond .ne 23, 3), (7, .aload_n 0, 1), (8, .getfield 66, 3), (11, .invokevirtual 245, 3), (14, .aload_n 0, 1), (15, .getfield 19, 3), (18, .getfield 41, 3), (21, .getfield 248, 3), (24, .if_icmp .lt 5, 3), (27, .iconst (-1), 1), (28, .ireturn, 1), (29, .aload_n 0, 1), (30, .getfield 75, 3), (33, .aload_n 0, 1), (34, .getfield 19, 3), (37, .getfield 41, 3), (40, .getfield 248, 3), (43, .iconst 1, 1), (44, .isub, 1), (45, .invokevirtual 330, 3), (48, .istore_n 1, 1), (49, .iload_n 1, 1), (50, .iconst (-1), 1), (51, .if_icmp .ne 7, 3), (54, .iconst (-1), 1), (55, .goto 15, 3), (58, .iload_n 1, 1), (59, .bipush 64, 2), (61, .idiv, 1), (62, .bipush 100, 2), (64, .imul, 1), (65, .iload_n 1, 1), (66, .bipush 64, 2), (68, .irem, 1), (69, .iadd, 1), (70, .ireturn, 1)]
def gC131 : List (Nat × Instr × Nat) := [(0, .aload_n 0, 1), (1, .getfield 19, 3), (4, .getfield 41, 3), (7, .iload_n 1, 1), (8, .invokevirtual 128, 3), (11, .ifCond .eq 22, 3), (14, .aload_n 0, 1), (15, .getfield 19, 3), (18, .getfield 41, 3), (21, .iload_n 2, 1), (22, .invokevirtual 128, 3), (25, .ifCond .eq 8, 3), (28, .iload_n 1, 1), (29, .iload_n 2, 1), (30, .if_icmp .ne 5, 3), (33, .iconst 0, 1), (34, .ireturn, 1), (35, .aload_n 0, 1), (36, .getfield 19, 3), (39, .getfield 41, 3), (42, .iload_n 1, 1), (43, .iload_n 2, 1), (44, .invokevirtual 333, 3), (47, .aload_n 0, 1), (48, .getfield 66, 3), (51, .invokevirtual 125, 3), (54, .iconst 1, 1), (55, .ireturn, 1)]
def gC132 : List (Nat × Instr × Nat) := [(0, .aload_n 0, 1), (1, .getfield 19, 3), (4, .getfield 41, 3), (7, .iload_n 1, 1), (8, .invokevirtual 128, 3), (11, .ifCond .ne 5, 3), (14, .iconst (-1), 1), (15, .ireturn, 1), (16, .aload_n 0, 1), (17, .getfield 75, 3), (20, .getfield 213, 3), (23, .lconst 1, 1), (24, .iload_n 1, 1), (25, .lshl, 1), (26, .aload_n 0, 1), (27, .getfield 19, 3), (30, .getfield 154, 3), (33, .bipush 64, 2), (35, .invokevirtual 336, 3), (38, .ireturn, 1)]
def gC133 : List (Nat × Instr × Nat) := [(0, .iload_n 1, 1), (1, .ifCond .lt 8, 3), (4, .iload_n 1, 1), (5, .iconst 1, 1), (6, .if_icmp .le 5, 3), (9, .iconst (-1), 1), (10, .ireturn, 1), (11, .iconst (-1), 1), (12, .istore_n 2, 1), (13, .iconst (-1), 1), (14, .istore_n 3, 1), (15, .iconst 0, 1), (16, .istore 4, 2), (18, .iload 4, 2), (20, .bipush 64, 2), (22, .if_icmp .ge 66, 3), (25, .aload_n 0, 1), (26, .iload 4, 2), (28, .invokevirtual 340, 3), (31, .istore 5, 2), (33, .iload 5, 2), (35, .iload_n 3, 1), (36, .if_icmp .gt 40, 3), (39, .iload_n 2, 1), (40, .iconst (-1), 1), (41, .if_icmp .eq 41, 3), (44, .iload 5, 2), (46, .iload_n 3, 1), (47, .if_icmp .ne 35, 3), (50, .aload_n 0, 1), (51, .getfield 19, 3), (54, .getfield 41, 3), (57, .iload 4, 2), (59, .invokevirtual 139, 3), (62, .aload_n 0, 1), (63, .getfield 19, 3), (66, .getfield 41, 3), (69, .iload_n 2, 1), (70, .invokevirtual 139, 3), (73, .if_icmp .ge 9, 3), (76, .iload 4, 2), (78, .istore_n 2, 1), (79, .iload 5, 2), (81, .istore_n 3, 1), (82, .iinc 4 1, 3), (85, .goto (-67), 3), (88, .iload_n 1, 1), (89, .ifCond .ne 7, 3), (92, .iload_n 2, 1), (93, .goto 4, 3), (96, .iload_n 3, 1), (97, .ireturn, 1)]
def gC134 : List (Nat × Instr × Nat) := [(0, .aload_n 0, 1), (1, .getfield 19, 3), (4, .getfield 41, 3), (7, .getfield 210, 3), (10, .invokestatic 198, 3), (13, .istore_n 3, 1), (14, .iload_n 1, 1), (15, .iconst 1, 1), (16, .if_icmp .lt 8, 3), (19, .iload_n 1, 1), (20, .iload_n 3, 1), (21, .if_icmp .le 5, 3), (24, .iconst 0, 1), (25, .ireturn, 1), (26, .aload_n 0, 1), (27, .getfield 19, 3), (30, .getfield 41, 3), (33, .getfield 210, 3), (36, .lstore 4, 2), (38, .iload_n 2, 1), (39, .istore 6, 2), (41, .iconst 0, 1), (42, .istore 7, 2), (44, .iload 7, 2), (46, .iload_n 1, 1), (47, .if_icmp .ge 44, 3), (50, .iload 7, 2), (52, .iload_n 3, 1), (53, .if_icmp .ge 38, 3), (56, .iload 6, 2), (58, .ldc_w 343, 3), (61, .imul, 1), (62, .sipush 12345, 3), (65, .iadd, 1), (66, .istore 6, 2), (68, .lload 4, 2), (70, .iload 6, 2), (72, .bipush 8, 2), (74, .iushr, 1), (75, .iload_n 3, 1), (76, .iload 7, 2), (78, .isub, 1), (79, .irem, 1), (80, .invokestatic 344, 3), (83, .lstore 4, 2), (85, .iinc 7 1, 3), (88, .goto (-44), 3), (91, .aload_n 0, 1), (92, .getfield 19, 3), (95, .aload_n 0, 1), (96, .getfield 19, 3), (99, .getfield 41, 3), (102, .getfield 210, 3), (105, .lload 4, 2), (107, .ldc2_w 348, 3), (110, .lxor, 1), (111, .land, 1), (112, .putfield 146, 3), (115, .aload_n 0, 1), (116, .getfield 66, 3), (119, .invokevirtual 125, 3), (122, .iconst 1, 1), (123, .ireturn, 1)]
def gC135 : List (Nat × Instr × Nat) := [(0, .aload_n 0, 1), (1, .invokevirtual 308, 3), (4, .ifCond .eq 5, 3), (7, .iconst (-1), 1), (8, .ireturn, 1), (9, .aload_n 0, 1), (10, .getfield 66, 3), (13, .invokevirtual 245, 3), (16, .istore_n 1, 1), (17, .iconst 0, 1), (18, .istore_n 2, 1), (19, .iload_n 2, 1), (20, .bipush 20, 2), (22, .if_icmp .ge 71, 3), (25, .aload_n 0, 1), (26, .getfield 75, 3), (29, .iload_n 1, 1), (30, .invokevirtual 330, 3), (33, .istore_n 3, 1), (34, .iload_n 3, 1), (35, .iconst (-1), 1), (36, .if_icmp .ne 6, 3), (39, .goto 54, 3), (42, .aload_n 0, 1), (43, .getfield 19, 3), (46, .getfield 41, 3), (49, .iload_n 3, 1), (50, .bipush 64, 2), (52, .idiv, 1), (53, .iload_n 3, 1), (54, .bipush 64, 2), (56, .irem, 1), (57, .invokevirtual 333, 3), (60, .aload_n 0, 1), (61, .getfield 75, 3), (64, .getfield 213, 3), (67, .aload_n 0, 1), (68, .getfield 19, 3), (71, .getfield 146, 3), (74, .aload_n 0, 1), (75, .getfield 19, 3), (78, .getfield 154, 3), (81, .bipush 64, 2), (83, .invokevirtual 336, 3), (86, .istore_n 1, 1), (87, .iinc 2 1, 3), (90, .goto (-71), 3), (93, .aload_n 0, 1), (94, .iload_n 2, 1), (95, .putfield 83, 3), (98, .aload_n 0, 1), (99, .getfield 66, 3), (102, .invokevirtual 125, 3), (105, .iload_n 1, 1), (106, .ireturn, 1)]
def gC136 : List (Nat × Instr × Nat) := [(0, .aload_n 0, 1), (1, .getfield 83, 3), (4, .ireturn, 1)]
def gC137 : List (Nat × Instr × Nat) := [(0, .iload_n 1, 1), (1, .ifCond .lt 8, 3), (4, .iload_n 1, 1), (5, .iconst 2, 1), (6, .if_icmp .lt 5, 3), (9, .iconst 0, 1), (10, .ireturn, 1), (11, .aload_n 0, 1), (12, .getfield 26, 3), (15, .iload_n 1, 1), (16, .aaload, 1), (17, .ifnonnull 16, 3), (20, .aload_n 0, 1), (21, .getfield 26, 3), (24, .iload_n 1, 1), (25, .new 16, 3), (28, .dup, 1), (29, .invokespecial 18, 3), (32, .aastore, 1), (33, .aload_n 0, 1), (34, .getfield 26, 3), (37, .iload_n 1, 1), (38, .aaload, 1), (39, .aload_n 0, 1), (40, .getfield 19, 3), (43, .invokevirtual 122, 3), (46, .iconst 1, 1), (47, .ireturn, 1)]
def gC138 : List (Nat × Instr × Nat) := [(0, .iload_n 1, 1), (1, .ifCond .lt 17, 3), (4, .iload_n 1, 1), (5, .iconst 2, 1), (6, .if_icmp .ge 12, 3), (9, .aload_n 0, 1), (10, .getfield 26, 3), (13, .iload_n 1, 1), (14, .aaload, 1), (15, .ifnonnull 5, 3), (18, .iconst 0, 1), (19, .ireturn, 1), (20, .aload_n 0, 1), (21, .getfield 19, 3), (24, .aload_n 0, 1), (25, .getfield 26, 3), (28, .iload_n 1, 1), (29, .aaload, 1), (30, .invokevirtual 122, 3), (33, .aload_n 0, 1), (34, .getfield 66, 3), (37, .invokevirtual 125, 3), (40, .iconst 1, 1), (41, .ireturn, 1)]
def gC139 : List (Nat × Instr × Nat) := [(0, .iload_n 1, 1), (1, .tableswitch 170 0 9 #[55, 66, 77, 91, 102, 113, 132, 143, 154, 162], 55), (56, .aload_n 0, 1), (57, .getfield 19, 3), (60, .getfield 41, 3), (63, .getfield 350, 3), (66, .ireturn, 1), (67, .aload_n 0, 1), (68, .getfield 19, 3), (71, .getfield 41, 3), (74, .getfield 353, 3), (77, .ireturn, 1), (78, .aload_n 0, 1), (79, .getfield 19, 3), (82, .getfield 41, 3), (85, .getfield 210, 3), (88, .invokestatic 198, 3), (91, .ireturn, 1), (92, .aload_n 0, 1), (93, .getfield 19, 3), (96, .getfield 41, 3), (99, .getfield 248, 3), (102, .ireturn, 1), (103, .aload_n 0, 1), (104, .getfield 19, 3), (107, .getfield 41, 3), (110, .getfield 356, 3), (113, .ireturn, 1), (114, .aload_n 0, 1), (115, .getfield 19, 3), (118, .getfield 41, 3), (121, .getfield 359, 3), (124, .ifCond .eq 7, 3), (127, .iconst 1, 1), (128, .goto 4, 3), (131, .iconst 0, 1), (132, .ireturn, 1), (133, .aload_n 0, 1), (134, .getfield 19, 3), (137, .getfield 146, 3), (140, .invokestatic 198, 3), (143, .ireturn, 1), (144, .aload_n 0, 1), (145, .getfield 19, 3), (148, .getfield 154, 3), (151, .invokestatic 198, 3), (154, .ireturn, 1), (155, .aload_n 0, 1), (156, .getfield 10, 3), (159, .getfield 86, 3), (162, .ireturn, 1), (163, .aload_n 0, 1), (164, .getfield 19, 3), (167, .getfield 170, 3), (170, .ireturn, 1), (171, .iconst (-1), 1), (172, .ireturn, 1)]
def gC140 : List (Nat × Instr × Nat) := [(0, .aload_n 0, 1), (1, .getfield 19, 3), (4, .getfield 41, 3), (7, .getfield 210, 3), (10, .invokestatic 198, 3), (13, .bipush 24, 2), (15, .if_icmp .le 7, 3), (18, .iconst 1, 1), (19, .goto 4, 3), (22, .iconst 0, 1), (23, .ireturn, 1)]
def gC141 : List (Nat × Instr × Nat) := [(0, .iload_n 0, 1), (1, .ifCond .lt 14, 3), (4, .iload_n 0, 1), (5, .sipush 600, 3), (8, .if_icmp .gt 7, 3), (11, .iconst 1, 1), (12, .goto 4, 3), (15, .iconst 0, 1), (16, .ireturn, 1)]
def gC142 : List (Nat × Instr × Nat) := [(0, .lload_n 0, 1), (1, .iload_n 2, 1), (2, .lushr, 1), (3, .lconst 1, 1), (4, .land, 1), (5, .l2i, 1), (6, .ireturn, 1)]
def gC143 : List (Nat × Instr × Nat) := [(0, .lload_n 0, 1), (1, .lconst 1, 1), (2, .iload_n 2, 1), (3, .lshl, 1), (4, .ldc2_w 348, 3), (7, .lxor, 1), (8, .land, 1), (9, .iload_n 3, 1), (10, .i2l, 1), (11, .iload_n 2, 1), (12, .lshl, 1), (13, .lor, 1), (14, .lreturn, 1)]
def gC144 : List (Nat × Instr × Nat) := [(0, .iconst 0, 1), (1, .istore_n 3, 1), (2, .iconst 0, 1), (3, .istore 4, 2), (5, .iload 4, 2), (7, .bipush 64, 2), (9, .if_icmp .ge 38, 3), (12, .lload_n 0, 1), (13, .iload 4, 2), (15, .invokestatic 150, 3), (18, .iconst 1, 1), (19, .if_icmp .ne 22, 3), (22, .iload_n 3, 1), (23, .iload_n 2, 1), (24, .if_icmp .ne 14, 3), (27, .lload_n 0, 1), (28, .lconst 1, 1), (29, .iload 4, 2), (31, .lshl, 1), (32, .ldc2_w 348, 3), (35, .lxor, 1), (36, .land, 1), (37, .lreturn, 1), (38, .iinc 3 1, 3), (41, .iinc 4 1, 3), (44, .goto (-39), 3), (47, .lload_n 0, 1), (48, .lreturn, 1)]
def gC145 : List (Nat × Instr × Nat) := [(0, .aload_n 0, 1), (1, .getfield 1, 3), (4, .ireturn, 1)]
def gC146 : List (Nat × Instr × Nat) := [(0, .aload_n 0, 1), (1, .iload_n 1, 1), (2, .ifCond .eq 7, 3), (5, .iconst 1, 1), (6, .goto 4, 3), (9, .iconst 0, 1), (10, .putfield 1, 3), (13, .iload_n 1, 1), (14, .ireturn, 1)]
def gC147 : List (Nat × Instr × Nat) := [(0, .aload_n 0, 1), (1, .iconst 0, 1), (2, .putfield 1, 3), (5, .aload_n 0, 1), (6, .getfield 7, 3), (9, .bipush 20, 2), (11, .iadd, 1), (12, .sipush 940, 3), (15, .if_icmp .le 5, 3), (18, .iconst (-1), 1), (19, .ireturn, 1), (20, .aload_n 0, 1), (21, .iload_n 1, 1), (22, .invokevirtual 10, 3), (25, .aload_n 0, 1), (26, .iload_n 2, 1), (27, .invokevirtual 10, 3), (30, .aload_n 0, 1), (31, .iload_n 3, 1), (32, .invokevirtual 10, 3), (35, .aload_n 0, 1), (36, .iload 4, 2), (38, .invokevirtual 10, 3), (41, .aload_n 0, 1), (42, .iload 5, 2), (44, .invokevirtual 10, 3), (47, .aload_n 0, 1), (48, .getfield 7, 3), (51, .ireturn, 1)]
def gC148 : List (Nat × Instr × Nat) := [(0, .bipush 24, 2), (2, .istore_n 2, 1), (3, .iload_n 2, 1), (4, .ifCond .lt 32, 3), (7, .aload_n 0, 1), (8, .getfield 14, 3), (11, .aload_n 0, 1), (12, .getfield 7, 3), (15, .iload_n 1, 1), (16, .iload_n 2, 1), (17, .ishr, 1), (18, .i2b, 1), (19, .bastore, 1), (20, .aload_n 0, 1), (21, .dup, 1), (22, .getfield 7, 3), (25, .iconst 1, 1), (26, .iadd, 1), (27, .putfield 7, 3), (30, .iinc 2 (-8), 3), (33, .goto (-30), 3), (36, .return_, 1)]
def gC149 : List (Nat × Instr × Nat) := [(0, .aload_n 0, 1), (1, .iconst 0, 1), (2, .putfield 1, 3), (5, .iload_n 1, 1), (6, .ifCond .lt 11, 3), (9, .iload_n 1, 1), (10, .aload_n 0, 1), (11, .getfield 7, 3), (14, .if_icmp .le 5, 3), (17, .iconst 0, 1), (18, .ireturn, 1), (19, .aload_n 0, 1), (20, .iload_n 1, 1), (21, .putfield 7, 3), (24, .iconst 1, 1), (25, .ireturn, 1)]
def gC150 : List (Nat × Instr × Nat) := [(0, .aload_n 0, 1), (1, .aload_n 0, 1), (2, .getfield 7, 3), (5, .putfield 18, 3), (8, .aload_n 0, 1), (9, .iconst 0, 1), (10, .putfield 7, 3), (13, .aload_n 0, 1), (14, .iconst 0, 1), (15, .putfield 21, 3), (18, .aload_n 0, 1), (19, .iload_n 1, 1), (20, .putfield 24, 3), (23, .return_, 1)]
def gC151 : List (Nat × Instr × Nat) := [(0, .iload_n 0, 1), (1, .iload_n 1, 1), (2, .if_icmp .lt 12, 3), (5, .iload_n 0, 1), (6, .iload_n 2, 1), (7, .if_icmp .gt 7, 3), (10, .iconst 1, 1), (11, .goto 4, 3), (14, .iconst 0, 1), (15, .ireturn, 1)]
def gC152 : List (Nat × Instr × Nat) := [(0, .iload_n 0, 1), (1, .iload_n 1, 1), (2, .ishr, 1), (3, .iconst 1, 1), (4, .iand, 1), (5, .iconst 1, 1), (6, .if_icmp .ne 7, 3), (9, .iconst 1, 1), (10, .goto 4, 3), (13, .iconst 0, 1), (14, .ireturn, 1)]
def gC153 : List (Nat × Instr × Nat) := [(0, .lload_n 0, 1), (1, .iload_n 2, 1), (2, .lshr, 1), (3, .lconst 1, 1), (4, .land, 1), (5, .lconst 1, 1), (6, .lcmp, 1), (7, .ifCond .ne 7, 3), (10, .iconst 1, 1), (11, .goto 4, 3), (14, .iconst 0, 1), (15, .ireturn, 1)]
def gC154 : List (Nat × Instr × Nat) := [(0, .lload_n 0, 1), (1, .lload_n 0, 1), (2, .iconst 1, 1), (3, .lushr, 1), (4, .ldc2_w 27, 3), (7, .land, 1), (8, .lsub, 1), (9, .lstore_n 2, 1), (10, .lload_n 2, 1), (11, .ldc2_w 29, 3), (14, .land, 1), (15, .lload_n 2, 1), (16, .iconst 2, 1), (17, .lushr, 1), (18, .ldc2_w 29, 3), (21, .land, 1), (22, .ladd, 1), (23, .lstore_n 2, 1), (24, .lload_n 2, 1), (25, .lload_n 2, 1), (26, .iconst 4, 1), (27, .lushr, 1), (28, .ladd, 1), (29, .ldc2_w 31, 3), (32, .land, 1), (33, .lstore_n 2, 1), (34, .lload_n 2, 1), (35, .ldc2_w 33, 3), (38, .lmul, 1), (39, .bipush 56, 2), (41, .lushr, 1), (42, .l2i, 1), (43, .ireturn, 1)]
def gC155 : List (Nat × Instr × Nat) := [(0, .aload_n 0, 1), (1, .getfield 14, 3), (4, .iload_n 1, 1), (5, .baload, 1), (6, .sipush 255, 3), (9, .iand, 1), (10, .ireturn, 1)]
def gC156 : List (Nat × Instr × Nat) := [(0, .aload_n 0, 1), (1, .invokespecial 35, 3), (4, .aload_n 0, 1), (5, .sipush 940, 3), (8, .newarray .byte, 2), (10, .putfield 14, 3), (13, .aload_n 0, 1), (14, .sipush 681, 3), (17, .newarray .int, 2), (19, .putfield 41, 3), (22, .aload_n 0, 1), (23, .sipush 590, 3), (26, .newarray .int, 2), (28, .putfield 45, 3), (31, .aload_n 0, 1), (32, .bipush 90, 2), (34, .newarray .int, 2), (36, .putfield 48, 3), (39, .aload_n 0, 1), (40, .bipush 64, 2), (42, .newarray .int, 2), (44, .putfield 51, 3), (47, .aload_n 0, 1), (48, .bipush 30, 2), (50, .newarray .int, 2), (52, .putfield 54, 3), (55, .aload_n 0, 1), (56, .bipush 64, 2), (58, .newarray .boolean, 2), (60, .putfield 57, 3), (63, .aload_n 0, 1), (64, .sipush 384, 3), (67, .newarray .long, 2), (69, .putfield 61, 3), (72, .aload_n 0, 1), (73, .iconst 1, 1), (74, .putfield 65, 3), (77, .aload_n 0, 1), (78, .sipush 601, 3), (81, .newarray .long, 2), (83, .putfield 69, 3), (86, .aload_n 0, 1), (87, .sipush 601, 3), (90, .newarray .long, 2), (92, .putfield 72, 3), (95, .aload_n 0, 1), (96, .sipush 601, 3), (99, .newarray .long, 2), (101, .putfield 75, 3), (104, .aload_n 0, 1), (105, .sipush 601, 3), (108, .newarray .long, 2), (110, .putfield 78, 3), (113, .aload_n 0, 1), (114, .bipush 14, 2), (116, .newarray .int, 2), (118, .putfield 81, 3), (121, .aload_n 0, 1), (122, .iconst (-1), 1), (123, .putfield 84, 3), (126, .aload_n 0, 1), (127, .sipush 256, 3), (130, .newarray .boolean, 2), (132, .putfield 87, 3), (135, .aload_n 0, 1), (136, .sipush 256, 3), (139, .newarray .int, 2), (141, .putfield 90, 3), (144, .aload_n 0, 1), (145, .bipush 8, 2), (147, .newarray .long, 2), (149, .putfield 93, 3), (152, .aload_n 0, 1), (153, .iconst 3, 1), (154, .newarray .int, 2), (156, .putfield 96, 3), (159, .aload_n 0, 1), (160, .iconst (-1), 1), (161, .putfield 99, 3), (164, .aload_n 0, 1), (165, .iconst (-1), 1), (166, .putfield 102, 3), (169, .aload_n 0, 1), (170, .bipush 61, 2), (172, .newarray .long, 2), (174, .putfield 105, 3), (177, .aload_n 0, 1), (178, .bipush 61, 2), (180, .newarray .long, 2), (182, .putfield 108, 3), (185, .aload_n 0, 1), (186, .sipush 1362, 3), (189, .newarray .int, 2), (191, .putfield 111, 3), (194, .aload_n 0, 1), (195, .iconst 2, 1), (196, .newarray .long, 2), (198, .putfield 114, 3), (201, .aload_n 0, 1), (202, .iconst 2, 1), (203, .newarray .long, 2), (205, .putfield 117, 3), (208, .aload_n 0, 1), (209, .iconst 2, 1), (210, .newarray .boolean, 2), (212, .putfield 120, 3), (215, .aload_n 0, 1), (216, .invokevirtual 123, 3), (219, .iconst 0, 1), (220, .istore_n 1, 1), (221, .iload_n 1, 1), (222, .sipush 590, 3), (225, .if_icmp .ge 21, 3), (228, .aload_n 0, 1), (229, .getfield 41, 3), (232, .iload_n 1, 1), (233, .aload_n 0, 1), (234, .getfield 45, 3), (237, .iload_n 1, 1), (238, .iaload, 1), (239, .iastore, 1), (240, .iinc 1 1, 3), (243, .goto (-22), 3), (246, .return_, 1)]
def gC157 : List (Nat × Instr × Nat) := [(0, .iconst 0, 1), (1, .istore_n 1, 1), (2, .iload_n 1, 1), (3, .sipush 590, 3), (6, .if_icmp .ge 16, 3), (9, .aload_n 0, 1), (10, .getfield 45, 3), (13, .iload_n 1, 1), (14, .iconst 0, 1), (15, .iastore, 1), (16, .iinc 1 1, 3), (19, .goto (-17), 3), (22, .iconst 0, 1), (23, .istore_n 1, 1), (24, .iload_n 1, 1), (25, .bipush 8, 2), (27, .if_icmp .ge 20, 3), (30, .aload_n 0, 1), (31, .getfield 45, 3), (34, .bipush 70, 2), (36, .iload_n 1, 1), (37, .iadd, 1), (38, .bipush 10, 2), (40, .iastore, 1), (41, .iinc 1 1, 3), (44, .goto (-20), 3), (47, .aload_n 0, 1), (48, .getfield 45, 3), (51, .iconst 3, 1), (52, .iconst 1, 1), (53, .iastore, 1), (54, .aload_n 0, 1), (55, .getfield 45, 3), (58, .iconst 4, 1), (59, .sipush 600, 3), (62, .iastore, 1), (63, .return_, 1)]
def gC158 : List (Nat × Instr × Nat) := [(0, .aload_n 0, 1), (1, .getfield 21, 3), (4, .aload_n 0, 1), (5, .getfield 18, 3), (8, .if_icmp .ge 19, 3), (11, .aload_n 0, 1), (12, .getfield 14, 3), (15, .aload_n 0, 1), (16, .getfield 21, 3), (19, .baload, 1), (20, .sipush 255, 3), (23, .iand, 1), (24, .goto 4, 3), (27, .iconst (-1), 1), (28, .ireturn, 1)]
def gC159 : List (Nat × Instr × Nat) := [(0, .iload_n 0, 1), (1, .bipush 97, 2), (3, .if_icmp .lt 13, 3), (6, .iload_n 0, 1), (7, .bipush 122, 2), (9, .if_icmp .gt 7, 3), (12, .iconst 1, 1), (13, .goto 4, 3), (16, .iconst 0, 1), (17, .ireturn, 1)]
def gC160 : List (Nat × Instr × Nat) := [(0, .iload_n 0, 1), (1, .bipush 48, 2), (3, .if_icmp .lt 13, 3), (6, .iload_n 0, 1), (7, .bipush 57, 2), (9, .if_icmp .gt 7, 3), (12, .iconst 1, 1), (13, .goto 4, 3), (16, .iconst 0, 1), (17, .ireturn, 1)]
def gC161 : List (Nat × Instr × Nat) := [(0, .aload_n 0, 1), (1, .invokevirtual 126, 3), (4, .bipush 32, 2), (6, .if_icmp .eq 12, 3), (9, .aload_n 0, 1), (10, .invokevirtual 126, 3), (13, .bipush 10, 2), (15, .if_icmp .ne 16, 3), (18, .aload_n 0, 1), (19, .dup, 1), (20, .getfield 21, 3), (23, .iconst 1, 1), (24, .iadd, 1), (25, .putfield 21, 3), (28, .goto (-28), 3), (31, .aload_n 0, 1), (32, .aload_n 0, 1), (33, .getfield 21, 3), (36, .putfield 130, 3), (39, .aload_n 0, 1), (40, .iconst 0, 1), (41, .putfield 133, 3), (44, .aload_n 0, 1), (45, .getfield 18, 3), (48, .aload_n 0, 1), (49, .getfield 24, 3), (52, .if_icmp .le 28, 3), (55, .aload_n 0, 1), (56, .getfield 21, 3), (59, .aload_n 0, 1), (60, .getfield 24, 3), (63, .if_icmp .lt 17, 3), (66, .aload_n 0, 1), (67, .aload_n 0, 1), (68, .getfield 24, 3), (71, .putfield 130, 3), (74, .aload_n 0, 1), (75, .iconst 4, 1), (76, .putfield 136, 3), (79, .return_, 1), (80, .aload_n 0, 1), (81, .invokevirtual 126, 3), (84, .istore_n 1, 1), (85, .iload_n 1, 1), (86, .ifCond .ge 9, 3), (89, .aload_n 0, 1), (90, .iconst 0, 1), (91, .putfield 136, 3), (94, .return_, 1), (95, .iload_n 1, 1), (96, .invokestatic 139, 3), (99, .ifCond .ne 65, 3), (102, .iload_n 1, 1), (103, .invokestatic 143, 3), (106, .ifCond .ne 58, 3), (109, .aload_n 0, 1), (110, .iload_n 1, 1), (111, .bipush 59, 2), (113, .if_icmp .eq 27, 3), (116, .iload_n 1, 1), (117, .bipush 40, 2), (119, .if_icmp .eq 21, 3), (122, .iload_n 1, 1), (123, .bipush 41, 2), (125, .if_icmp .eq 15, 3), (128, .iload_n 1, 1), (129, .bipush 60, 2), (131, .if_icmp .lt 13, 3), (134, .iload_n 1, 1), (135, .bipush 62, 2), (137, .if_icmp .gt 7, 3), (140, .iconst 3, 1), (141, .goto 4, 3), (144, .iconst 4, 1), (145, .putfield 136, 3), (148, .aload_n 0, 1), (149, .iload_n 1, 1), (150, .putfield 146, 3), (153, .aload_n 0, 1), (154, .dup, 1), (155, .getfield 21, 3), (158, .iconst 1, 1), (159, .iadd, 1), (160, .putfield 21, 3), (163, .return_, 1), (164, .iload_n 1, 1), (165, .invokestatic 139, 3), (168, .istore_n 2, 1), (169, .iconst 1, 1), (170, .istore_n 3, 1), (171, .aload_n 0, 1), (172, .lconst 0, 1), (173, .putfield 149, 3), (176, .aload_n 0, 1), (177, .iconst 0, 1), (178, .putfield 146, 3), (181, .aload_n 0, 1), (182, .invokevirtual 126, 3), (185, .invokestatic 139, 3), (188, .ifCond .ne 13, 3), (191, .aload_n 0, 1), (192, .invokevirtual 126, 3), (195, .invokestatic 143, 3), (198, .ifCond .eq 100, 3), (201, .iload_n 3, 1), (202, .ifCond .eq 18, 3), (205, .aload_n 0, 1), (206, .invokevirtual 126, 3), (209, .invokestatic 139, 3), (212, .iload_n 2, 1), (213, .if_icmp .ne 7, 3), (216, .iconst 1, 1), (217, .goto 4, 3), (220, .iconst 0, 1), (221, .istore_n 3, 1), (222, .aload_n 0, 1), (223, .getfield 133, 3), (226, .bipush 8, 2), (228, .if_icmp .ge 20, 3), (231, .aload_n 0, 1), (232, .aload_n 0, 1), (233, .getfield 149, 3), (236, .bipush 8, 2), (238, .lshl, 1), (239, .aload_n 0, 1), (240, .invokevirtual 126, 3), (243, .i2l, 1), (244, .lor, 1), (245, .putfield 149, 3), (248, .aload_n 0, 1), (249, .getfield 133, 3), (252, .iconst 3, 1), (253, .if_icmp .ge 22, 3), (256, .aload_n 0, 1), (257, .bipush 10, 2), (259, .aload_n 0, 1), (260, .getfield 146, 3), (263, .imul, 1), (264, .aload_n 0, 1), (265, .invokevirtual 126, 3), (268, .iadd, 1), (269, .bipush 48, 2), (271, .isub, 1), (272, .putfield 146, 3), (275, .aload_n 0, 1), (276, .dup, 1), (277, .getfield 133, 3), (280, .iconst 1, 1), (281, .iadd, 1), (282, .putfield 133, 3), (285, .aload_n 0, 1), (286, .dup, 1), (287, .getfield 21, 3), (290, .iconst 1, 1), (291, .iadd, 1), (292, .putfield 21, 3), (295, .goto (-114), 3), (298, .aload_n 0, 1), (299, .iload_n 3, 1), (300, .ifCond .eq 20, 3), (303, .aload_n 0, 1), (304, .getfield 133, 3), (307, .iload_n 2, 1), (308, .ifCond .eq 8, 3), (311, .bipush 8, 2), (313, .goto 4, 3), (316, .iconst 3, 1), (317, .if_icmp .le 7, 3), (320, .iconst 4, 1), (321, .goto 12, 3), (324, .iload_n 2, 1), (325, .ifCond .eq 7, 3), (328, .iconst 1, 1), (329, .goto 4, 3), (332, .iconst 2, 1), (333, .putfield 136, 3), (336, .return_, 1)]
def gC162 : List (Nat × Instr × Nat) := [(0, .aload_n 0, 1), (1, .iload_n 1, 1), (2, .putfield 153, 3), (5, .aload_n 0, 1), (6, .aload_n 0, 1), (7, .getfield 130, 3), (10, .putfield 156, 3), (13, .iconst 0, 1), (14, .ireturn, 1)]
def gC163 : List (Nat × Instr × Nat) := [(0, .aload_n 0, 1), (1, .getfield 136, 3), (4, .iconst 1, 1), (5, .if_icmp .ne 16, 3), (8, .aload_n 0, 1), (9, .getfield 149, 3), (12, .lload_n 1, 1), (13, .lcmp, 1), (14, .ifCond .ne 7, 3), (17, .iconst 1, 1), (18, .goto 4, 3), (21, .iconst 0, 1), (22, .ireturn, 1)]
def gC164 : List (Nat × Instr × Nat) := [(0, .aload_n 0, 1), (1, .getfield 136, 3), (4, .iconst 3, 1), (5, .if_icmp .ne 15, 3), (8, .aload_n 0, 1), (9, .getfield 146, 3), (12, .iload_n 1, 1), (13, .if_icmp .ne 7, 3), (16, .iconst 1, 1), (17, .goto 4, 3), (20, .iconst 0, 1), (21, .ireturn, 1)]
def gC165 : List (Nat × Instr × Nat) := [(0, .aload_n 0, 1), (1, .iload_n 1, 1), (2, .invokevirtual 159, 3), (5, .ifCond .ne 9, 3), (8, .aload_n 0, 1), (9, .iconst 1, 1), (10, .invokevirtual 162, 3), (13, .ireturn, 1), (14, .aload_n 0, 1), (15, .invokevirtual 165, 3), (18, .iconst 1, 1), (19, .ireturn, 1)]
def gC166 : List (Nat × Instr × Nat) := [(0, .aload_n 0, 1), (1, .getfield 136, 3), (4, .iconst 2, 1), (5, .if_icmp .eq 9, 3), (8, .aload_n 0, 1), (9, .iconst 1, 1), (10, .invokevirtual 162, 3), (13, .ireturn, 1), (14, .aload_n 0, 1), (15, .getfield 146, 3), (18, .iload_n 1, 1), (19, .iload_n 2, 1), (20, .invokestatic 168, 3), (23, .ifCond .ne 9, 3), (26, .aload_n 0, 1), (27, .iconst 2, 1), (28, .invokevirtual 162, 3), (31, .ireturn, 1), (32, .aload_n 0, 1), (33, .aload_n 0, 1), (34, .getfield 146, 3), (37, .putfield 172, 3), (40, .aload_n 0, 1), (41, .invokevirtual 165, 3), (44, .iconst 1, 1), (45, .ireturn, 1)]
def gC167 : List (Nat × Instr × Nat) := [(0, .aload_n 0, 1), (1, .ldc2_w 175, 3), (4, .invokevirtual 177, 3), (7, .ifCond .eq 8, 3), (10, .aload_n 0, 1), (11, .invokevirtual 181, 3), (14, .ireturn, 1), (15, .aload_n 0, 1), (16, .ldc2_w 185, 3), (19, .invokevirtual 177, 3), (22, .ifCond .eq 9, 3), (25, .aload_n 0, 1), (26, .iconst 0, 1), (27, .invokevirtual 187, 3), (30, .ireturn, 1), (31, .aload_n 0, 1), (32, .ldc2_w 190, 3), (35, .invokevirtual 177, 3), (38, .ifCond .eq 9, 3), (41, .aload_n 0, 1), (42, .iconst 1, 1), (43, .invokevirtual 187, 3), (46, .ireturn, 1), (47, .aload_n 0, 1), (48, .ldc2_w 192, 3), (51, .invokevirtual 177, 3), (54, .ifCond .eq 61, 3), (57, .aload_n 0, 1), (58, .aload_n 0, 1), (59, .getfield 194, 3), (62, .invokevirtual 197, 3), (65, .ifCond .ne 5, 3), (68, .iconst 0, 1), (69, .ireturn, 1), (70, .aload_n 0, 1), (71, .getfield 172, 3), (74, .istore_n 1, 1), (75, .aload_n 0, 1), (76, .dup, 1), (77, .getfield 194, 3), (80, .iconst 1, 1), (81, .iload_n 1, 1), (82, .ishl, 1), (83, .ior, 1), (84, .putfield 194, 3), (87, .aload_n 0, 1), (88, .iconst 0, 1), (89, .sipush 999, 3), (92, .invokevirtual 200, 3), (95, .ifCond .ne 5, 3), (98, .iconst 0, 1), (99, .ireturn, 1), (100, .aload_n 0, 1), (101, .getfield 45, 3), (104, .bipush 70, 2), (106, .iload_n 1, 1), (107, .iadd, 1), (108, .aload_n 0, 1), (109, .getfield 172, 3), (112, .iastore, 1), (113, .iconst 1, 1), (114, .ireturn, 1), (115, .aload_n 0, 1), (116, .ldc2_w 204, 3), (119, .invokevirtual 177, 3), (122, .ifCond .eq 63, 3), (125, .aload_n 0, 1), (126, .aload_n 0, 1), (127, .getfield 206, 3), (130, .invokevirtual 197, 3), (133, .ifCond .ne 5, 3), (136, .iconst 0, 1), (137, .ireturn, 1), (138, .aload_n 0, 1), (139, .getfield 172, 3), (142, .istore_n 1, 1), (143, .aload_n 0, 1), (144, .dup, 1), (145, .getfield 206, 3), (148, .iconst 1, 1), (149, .iload_n 1, 1), (150, .ishl, 1), (151, .ior, 1), (152, .putfield 206, 3), (155, .aload_n 0, 1), (156, .iconst 0, 1), (157, .sipush 600, 3), (160, .invokevirtual 200, 3), (163, .ifCond .ne 5, 3), (166, .iconst 0, 1), (167, .ireturn, 1), (168, .aload_n 0, 1), (169, .getfield 45, 3), (172, .bipush 78, 2), (174, .iload_n 1, 1), (175, .iadd, 1), (176, .aload_n 0, 1), (177, .getfield 172, 3), (180, .iconst 1, 1), (181, .iadd, 1), (182, .iastore, 1), (183, .iconst 1, 1), (184, .ireturn, 1), (185, .aload_n 0, 1), (186, .ldc2_w 209, 3), (189, .invokevirtual 177, 3), (192, .ifCond .eq 13, 3), (195, .aload_n 0, 1), (196, .iconst 0, 1), (197, .iconst 3, 1), (198, .iconst 1, 1), (199, .bipush 64, 2), (201, .invokevirtual 211, 3), (204, .ireturn, 1), (205, .aload_n 0, 1), (206, .ldc2_w 215, 3), (209, .invokevirtual 177, 3), (212, .ifCond .eq 14, 3), (215, .aload_n 0, 1), (216, .iconst 1, 1), (217, .iconst 4, 1), (218, .iconst 0, 1), (219, .sipush 600, 3), (222, .invokevirtual 211, 3), (225, .ireturn, 1), (226, .aload_n 0, 1), (227, .ldc2_w 217, 3), (230, .invokevirtual 177, 3), (233, .ifCond .ne 9, 3), (236, .aload_n 0, 1), (237, .iconst 1, 1), (238, .invokevirtual 162, 3), (241, .ireturn, 1), (242, .aload_n 0, 1), (243, .getfield 219, 3), (246, .iconst 2, 1), (247, .invokestatic 222, 3), (250, .ifCond .eq 9, 3), (253, .aload_n 0, 1), (254, .iconst 3, 1), (255, .invokevirtual 162, 3), (258, .ireturn, 1), (259, .aload_n 0, 1), (260, .dup, 1), (261, .getfield 219, 3), (264, .iconst 4, 1), (265, .ior, 1), (266, .putfield 219, 3), (269, .aload_n 0, 1), (270, .getfield 45, 3), (273, .iconst 5, 1), (274, .iconst 1, 1), (275, .iastore, 1), (276, .aload_n 0, 1), (277, .invokevirtual 165, 3), (280, .iconst 1, 1), (281, .ireturn, 1)]
def gC168 : List (Nat × Instr × Nat) := [(0, .aload_n 0, 1), (1, .getfield 219, 3), (4, .iload_n 1, 1), (5, .invokestatic 222, 3), (8, .ifCond .eq 9, 3), (11, .aload_n 0, 1), (12, .iconst 3, 1), (13, .invokevirtual 162, 3), (16, .ireturn, 1), (17, .aload_n 0, 1), (18, .dup, 1), (19, .getfield 219, 3), (22, .iconst 1, 1), (23, .iload_n 1, 1), (24, .ishl, 1), (25, .ior, 1), (26, .putfield 219, 3), (29, .aload_n 0, 1), (30, .invokevirtual 165, 3), (33, .aload_n 0, 1), (34, .iload_n 3, 1), (35, .iload 4, 2), (37, .invokevirtual 200, 3), (40, .ifCond .ne 5, 3), (43, .iconst 0, 1), (44, .ireturn, 1), (45, .aload_n 0, 1), (46, .getfield 45, 3), (49, .iload_n 2, 1), (50, .aload_n 0, 1), (51, .getfield 172, 3), (54, .iastore, 1), (55, .iconst 1, 1), (56, .ireturn, 1)]
def gC169 : List (Nat × Instr × Nat) := [(0, .aload_n 0, 1), (1, .invokevirtual 165, 3), (4, .aload_n 0, 1), (5, .getfield 136, 3), (8, .iconst 2, 1), (9, .if_icmp .eq 9, 3), (12, .aload_n 0, 1), (13, .iconst 1, 1), (14, .invokevirtual 162, 3), (17, .ireturn, 1), (18, .aload_n 0, 1), (19, .getfield 146, 3), (22, .aload_n 0, 1), (23, .getfield 45, 3), (26, .iconst 0, 1), (27, .iaload, 1), (28, .if_icmp .lt 9, 3), (31, .aload_n 0, 1), (32, .iconst 2, 1), (33, .invokevirtual 162, 3), (36, .ireturn, 1), (37, .iload_n 1, 1), (38, .aload_n 0, 1), (39, .getfield 146, 3), (42, .invokestatic 222, 3), (45, .ifCond .eq 9, 3), (48, .aload_n 0, 1), (49, .iconst 3, 1), (50, .invokevirtual 162, 3), (53, .ireturn, 1), (54, .aload_n 0, 1), (55, .aload_n 0, 1), (56, .getfield 146, 3), (59, .putfield 172, 3), (62, .aload_n 0, 1), (63, .invokevirtual 165, 3), (66, .iconst 1, 1), (67, .ireturn, 1)]
def gC170 : List (Nat × Instr × Nat) := [(0, .aload_n 0, 1), (1, .getfield 45, 3), (4, .iconst 0, 1), (5, .iaload, 1), (6, .istore_n 1, 1), (7, .iload_n 1, 1), (8, .bipush 8, 2), (10, .if_icmp .ne 9, 3), (13, .aload_n 0, 1), (14, .iconst 4, 1), (15, .invokevirtual 162, 3), (18, .ireturn, 1), (19, .aload_n 0, 1), (20, .invokevirtual 165, 3), (23, .aload_n 0, 1), (24, .getfield 136, 3), (27, .iconst 1, 1), (28, .if_icmp .eq 9, 3), (31, .aload_n 0, 1), (32, .iconst 1, 1), (33, .invokevirtual 162, 3), (36, .ireturn, 1), (37, .iload_n 1, 1), (38, .ifCond .eq 16, 3), (41, .aload_n 0, 1), (42, .getfield 133, 3), (45, .aload_n 0, 1), (46, .getfield 45, 3), (49, .iconst 1, 1), (50, .iaload, 1), (51, .if_icmp .ne 7, 3), (54, .iconst 1, 1), (55, .goto 4, 3), (58, .iconst 0, 1), (59, .istore_n 2, 1), (60, .iconst 0, 1), (61, .istore_n 3, 1), (62, .iload_n 3, 1), (63, .aload_n 0, 1), (64, .getfield 133, 3), (67, .if_icmp .ge 54, 3), (70, .iload_n 2, 1), (71, .ifCond .eq 42, 3), (74, .aload_n 0, 1), (75, .aload_n 0, 1), (76, .getfield 130, 3), (79, .iload_n 3, 1), (80, .iadd, 1), (81, .invokevirtual 225, 3), (84, .bipush 120, 2), (86, .if_icmp .eq 23, 3), (89, .aload_n 0, 1), (90, .aload_n 0, 1), (91, .getfield 130, 3), (94, .iload_n 3, 1), (95, .iadd, 1), (96, .invokevirtual 225, 3), (99, .bipush 97, 2), (101, .bipush 102, 2), (103, .invokestatic 168, 3), (106, .ifCond .eq 7, 3), (109, .iconst 1, 1), (110, .goto 4, 3), (113, .iconst 0, 1), (114, .istore_n 2, 1), (115, .iinc 3 1, 3), (118, .goto (-56), 3), (121, .iload_n 2, 1), (122, .ifCond .ne 9, 3), (125, .aload_n 0, 1), (126, .iconst 2, 1), (127, .invokevirtual 162, 3), (130, .ireturn, 1), (131, .aload_n 0, 1), (132, .getfield 45, 3), (135, .iconst 1, 1), (136, .aload_n 0, 1), (137, .getfield 133, 3), (140, .iastore, 1), (141, .iconst 0, 1), (142, .istore_n 3, 1), (143, .iload_n 3, 1), (144, .aload_n 0, 1), (145, .getfield 133, 3), (148, .if_icmp .ge 74, 3), (151, .aload_n 0, 1), (152, .aload_n 0, 1), (153, .getfield 130, 3), (156, .iload_n 3, 1), (157, .iadd, 1), (158, .invokevirtual 225, 3), (161, .istore 4, 2), (163, .aload_n 0, 1), (164, .getfield 45, 3), (167, .bipush 6, 2), (169, .aload_n 0, 1), (170, .getfield 133, 3), (173, .iload_n 1, 1), (174, .imul, 1), (175, .iadd, 1), (176, .iload_n 3, 1), (177, .iadd, 1), (178, .iload 4, 2), (180, .bipush 120, 2), (182, .if_icmp .ne 7, 3), (185, .iconst 0, 1), (186, .goto 8, 3), (189, .iload 4, 2), (191, .bipush 96, 2), (193, .isub, 1), (194, .iastore, 1), (195, .aload_n 0, 1), (196, .getfield 45, 3), (199, .iconst 2, 1), (200, .dup2, 1), (201, .iaload, 1), (202, .iload 4, 2), (204, .bipush 120, 2), (206, .if_icmp .ne 7, 3), (209, .iconst 0, 1), (210, .goto 4, 3), (213, .iconst 1, 1), (214, .iadd, 1), (215, .iastore, 1), (216, .iinc 3 1, 3), (219, .goto (-76), 3), (222, .aload_n 0, 1), (223, .getfield 45, 3), (226, .iconst 0, 1), (227, .dup2, 1), (228, .iaload, 1), (229, .iconst 1, 1), (230, .iadd, 1), (231, .iastore, 1), (232, .aload_n 0, 1), (233, .invokevirtual 165, 3), (236, .iconst 1, 1), (237, .ireturn, 1)]
def gC171 : List (Nat × Instr × Nat) := [(0, .aload_n 0, 1), (1, .invokevirtual 165, 3), (4, .aload_n 0, 1), (5, .getfield 136, 3), (8, .iconst 1, 1), (9, .if_icmp .eq 9, 3), (12, .aload_n 0, 1), (13, .iconst 1, 1), (14, .invokevirtual 162, 3), (17, .ireturn, 1), (18, .aload_n 0, 1), (19, .getfield 133, 3), (22, .iconst 1, 1), (23, .if_icmp .ne 18, 3), (26, .aload_n 0, 1), (27, .getfield 149, 3), (30, .l2i, 1), (31, .bipush 97, 2), (33, .bipush 102, 2), (35, .invokestatic 168, 3), (38, .ifCond .ne 9, 3), (41, .aload_n 0, 1), (42, .iconst 2, 1), (43, .invokevirtual 162, 3), (46, .ireturn, 1), (47, .bipush 86, 2), (49, .bipush 42, 2), (51, .iconst 2, 1), (52, .aload_n 0, 1), (53, .getfield 149, 3), (56, .l2i, 1), (57, .bipush 97, 2), (59, .isub, 1), (60, .imul, 1), (61, .iload_n 1, 1), (62, .iadd, 1), (63, .imul, 1), (64, .iadd, 1), (65, .istore_n 2, 1), (66, .aload_n 0, 1), (67, .getfield 45, 3), (70, .iload_n 2, 1), (71, .iaload, 1), (72, .ifCond .le 9, 3), (75, .aload_n 0, 1), (76, .iconst 3, 1), (77, .invokevirtual 162, 3), (80, .ireturn, 1), (81, .aload_n 0, 1), (82, .invokevirtual 165, 3), (85, .aload_n 0, 1), (86, .iconst 0, 1), (87, .putfield 229, 3), (90, .aload_n 0, 1), (91, .iconst 0, 1), (92, .putfield 232, 3), (95, .aload_n 0, 1), (96, .iconst 0, 1), (97, .putfield 235, 3), (100, .aload_n 0, 1), (101, .invokevirtual 238, 3), (104, .ifCond .ne 5, 3), (107, .iconst 0, 1), (108, .ireturn, 1), (109, .aload_n 0, 1), (110, .getfield 45, 3), (113, .iload_n 2, 1), (114, .aload_n 0, 1), (115, .getfield 235, 3), (118, .iastore, 1), (119, .aload_n 0, 1), (120, .getfield 45, 3), (123, .iload_n 2, 1), (124, .iconst 1, 1), (125, .iadd, 1), (126, .aload_n 0, 1), (127, .getfield 229, 3), (130, .iastore, 1), (131, .iconst 0, 1), (132, .istore_n 3, 1), (133, .iload_n 3, 1), (134, .aload_n 0, 1), (135, .getfield 229, 3), (138, .if_icmp .ge 25, 3), (141, .aload_n 0, 1), (142, .getfield 45, 3), (145, .iload_n 2, 1), (146, .iconst 2, 1), (147, .iadd, 1), (148, .iload_n 3, 1), (149, .iadd, 1), (150, .aload_n 0, 1), (151, .getfield 51, 3), (154, .iload_n 3, 1), (155, .iaload, 1), (156, .iastore, 1), (157, .iinc 3 1, 3), (160, .goto (-27), 3), (163, .iconst 1, 1), (164, .ireturn, 1)]
def gC172 : List (Nat × Instr × Nat) := [(0, .aload_n 0, 1), (1, .getfield 51, 3), (4, .aload_n 0, 1), (5, .getfield 229, 3), (8, .iload_n 1, 1), (9, .iastore, 1), (10, .aload_n 0, 1), (11, .dup, 1), (12, .getfield 229, 3), (15, .iconst 1, 1), (16, .iadd, 1), (17, .putfield 229, 3), (20, .return_, 1)]
def gC173 : List (Nat × Instr × Nat) := [(0, .aload_n 0, 1), (1, .getfield 232, 3), (4, .ifCond .le 63, 3), (7, .aload_n 0, 1), (8, .getfield 54, 3), (11, .aload_n 0, 1), (12, .getfield 232, 3), (15, .iconst 1, 1), (16, .isub, 1), (17, .iaload, 1), (18, .bipush 6, 2), (20, .if_icmp .eq 47, 3), (23, .aload_n 0, 1), (24, .getfield 54, 3), (27, .aload_n 0, 1), (28, .getfield 232, 3), (31, .iconst 1, 1), (32, .isub, 1), (33, .iaload, 1), (34, .invokestatic 241, 3), (37, .iload_n 1, 1), (38, .if_icmp .lt 29, 3), (41, .aload_n 0, 1), (42, .dup, 1), (43, .getfield 232, 3), (46, .iconst 1, 1), (47, .isub, 1), (48, .putfield 232, 3), (51, .aload_n 0, 1), (52, .aload_n 0, 1), (53, .getfield 54, 3), (56, .aload_n 0, 1), (57, .getfield 232, 3), (60, .iaload, 1), (61, .invokevirtual 244, 3), (64, .goto (-64), 3), (67, .return_, 1)]
def gC174 : List (Nat × Instr × Nat) := [(0, .iload_n 0, 1), (1, .iconst 3, 1), (2, .if_icmp .ne 7, 3), (5, .iconst 3, 1), (6, .goto 13, 3), (9, .iload_n 0, 1), (10, .iconst 4, 1), (11, .if_icmp .ne 7, 3), (14, .iconst 2, 1), (15, .goto 4, 3), (18, .iconst 1, 1), (19, .ireturn, 1)]
def gC175 : List (Nat × Instr × Nat) := [(0, .iconst 0, 1), (1, .istore_n 1, 1), (2, .iconst 0, 1), (3, .istore_n 2, 1), (4, .iload_n 2, 1), (5, .aload_n 0, 1), (6, .getfield 232, 3), (9, .if_icmp .ge 38, 3), (12, .iload_n 1, 1), (13, .aload_n 0, 1), (14, .getfield 54, 3), (17, .iload_n 2, 1), (18, .iaload, 1), (19, .iconst 3, 1), (20, .if_icmp .eq 14, 3), (23, .aload_n 0, 1), (24, .getfield 54, 3), (27, .iload_n 2, 1), (28, .iaload, 1), (29, .bipush 6, 2), (31, .if_icmp .ne 7, 3), (34, .iconst 1, 1), (35, .goto 4, 3), (38, .iconst 0, 1), (39, .iadd, 1), (40, .istore_n 1, 1), (41, .iinc 2 1, 3), (44, .goto (-40), 3), (47, .iload_n 1, 1), (48, .ireturn, 1)]
def gC176 : List (Nat × Instr × Nat) := [(0, .iconst 0, 1), (1, .istore_n 1, 1), (2, .iload_n 1, 1), (3, .aload_n 0, 1), (4, .getfield 232, 3), (7, .if_icmp .ge 22, 3), (10, .aload_n 0, 1), (11, .getfield 54, 3), (14, .iload_n 1, 1), (15, .iaload, 1), (16, .bipush 6, 2), (18, .if_icmp .ne 5, 3), (21, .iconst 1, 1), (22, .ireturn, 1), (23, .iinc 1 1, 3), (26, .goto (-24), 3), (29, .iconst 0, 1), (30, .ireturn, 1)]
def gC177 : List (Nat × Instr × Nat) := [(0, .aload_n 0, 1), (1, .invokevirtual 247, 3), (4, .ifCond .ne 5, 3), (7, .iconst 0, 1), (8, .ireturn, 1), (9, .aload_n 0, 1), (10, .bipush 41, 2), (12, .invokevirtual 159, 3), (15, .ifCond .eq 37, 3), (18, .aload_n 0, 1), (19, .invokevirtual 250, 3), (22, .ifCond .eq 30, 3), (25, .aload_n 0, 1), (26, .iconst 1, 1), (27, .invokevirtual 253, 3), (30, .aload_n 0, 1), (31, .dup, 1), (32, .getfield 232, 3), (35, .iconst 1, 1), (36, .isub, 1), (37, .putfield 232, 3), (40, .aload_n 0, 1), (41, .iconst 3, 1), (42, .invokevirtual 253, 3), (45, .aload_n 0, 1), (46, .invokevirtual 165, 3), (49, .goto (-40), 3), (52, .aload_n 0, 1), (53, .ldc2_w 256, 3), (56, .invokevirtual 177, 3), (59, .istore_n 1, 1), (60, .iload_n 1, 1), (61, .ifCond .ne 33, 3), (64, .aload_n 0, 1), (65, .ldc2_w 258, 3), (68, .invokevirtual 177, 3), (71, .ifCond .ne 23, 3), (74, .aload_n 0, 1), (75, .invokevirtual 250, 3), (78, .ifCond .eq 9, 3), (81, .aload_n 0, 1), (82, .iconst 1, 1), (83, .invokevirtual 162, 3), (86, .ireturn, 1), (87, .aload_n 0, 1), (88, .iconst 1, 1), (89, .invokevirtual 253, 3), (92, .iconst 1, 1), (93, .ireturn, 1), (94, .aload_n 0, 1), (95, .iload_n 1, 1), (96, .ifCond .eq 7, 3), (99, .iconst 2, 1), (100, .goto 4, 3), (103, .iconst 1, 1), (104, .invokevirtual 253, 3), (107, .aload_n 0, 1), (108, .getfield 54, 3), (111, .aload_n 0, 1), (112, .getfield 232, 3), (115, .iload_n 1, 1), (116, .ifCond .eq 7, 3), (119, .iconst 4, 1), (120, .goto 4, 3), (123, .iconst 5, 1), (124, .iastore, 1), (125, .aload_n 0, 1), (126, .dup, 1), (127, .getfield 232, 3), (130, .iconst 1, 1), (131, .iadd, 1), (132, .putfield 232, 3), (135, .aload_n 0, 1), (136, .invokevirtual 165, 3), (139, .goto (-139), 3)]
def gC178 : List (Nat × Instr × Nat) := [(0, .aload_n 0, 1), (1, .ldc2_w 260, 3), (4, .invokevirtual 177, 3), (7, .ifCond .eq 7, 3), (10, .iconst 0, 1), (11, .goto 104, 3), (14, .aload_n 0, 1), (15, .ldc2_w 262, 3), (18, .invokevirtual 177, 3), (21, .ifCond .eq 7, 3), (24, .iconst 1, 1), (25, .goto 90, 3), (28, .aload_n 0, 1), (29, .ldc2_w 264, 3), (32, .invokevirtual 177, 3), (35, .ifCond .eq 7, 3), (38, .iconst 2, 1), (39, .goto 76, 3), (42, .aload_n 0, 1), (43, .ldc2_w 266, 3), (46, .invokevirtual 177, 3), (49, .ifCond .eq 7, 3), (52, .iconst 3, 1), (53, .goto 62, 3), (56, .aload_n 0, 1), (57, .ldc2_w 268, 3), (60, .invokevirtual 177, 3), (63, .ifCond .eq 7, 3), (66, .iconst 4, 1), (67, .goto 48, 3), (70, .aload_n 0, 1), (71, .ldc2_w 270, 3), (74, .invokevirtual 177, 3), (77, .ifCond .eq 7, 3), (80, .iconst 5, 1), (81, .goto 34, 3), (84, .aload_n 0, 1), (85, .ldc2_w 272, 3), (88, .invokevirtual 177, 3), (91, .ifCond .eq 8, 3), (94, .bipush 6, 2), (96, .goto 19, 3), (99, .aload_n 0, 1), (100, .ldc2_w 274, 3), (103, .invokevirtual 177, 3), (106, .ifCond .eq 8, 3), (109, .bipush 7, 2), (111, .goto 4, 3), (114, .iconst (-1), 1), (115, .ireturn, 1)]
def gC179 : List (Nat × Instr × Nat) := [(0, .aload_n 0, 1), (1, .ldc2_w 276, 3), (4, .invokevirtual 177, 3), (7, .istore_n 1, 1), (8, .aload_n 0, 1), (9, .invokevirtual 278, 3), (12, .istore_n 2, 1), (13, .iload_n 1, 1), (14, .ifCond .ne 22, 3), (17, .iload_n 2, 1), (18, .ifCond .ge 18, 3), (21, .aload_n 0, 1), (22, .bipush 40, 2), (24, .invokevirtual 159, 3), (27, .ifCond .ne 9, 3), (30, .aload_n 0, 1), (31, .iconst 1, 1), (32, .invokevirtual 162, 3), (35, .ireturn, 1), (36, .aload_n 0, 1), (37, .getfield 235, 3), (40, .bipush 20, 2), (42, .if_icmp .eq 12, 3), (45, .aload_n 0, 1), (46, .invokevirtual 281, 3), (49, .bipush 8, 2), (51, .if_icmp .ne 9, 3), (54, .aload_n 0, 1), (55, .iconst 4, 1), (56, .invokevirtual 162, 3), (59, .ireturn, 1), (60, .aload_n 0, 1), (61, .dup, 1), (62, .getfield 235, 3), (65, .iconst 1, 1), (66, .iadd, 1), (67, .putfield 235, 3), (70, .aload_n 0, 1), (71, .invokevirtual 165, 3), (74, .iload_n 2, 1), (75, .ifCond .ge 35, 3), (78, .aload_n 0, 1), (79, .getfield 54, 3), (82, .aload_n 0, 1), (83, .getfield 232, 3), (86, .iload_n 1, 1), (87, .ifCond .eq 7, 3), (90, .iconst 3, 1), (91, .goto 5, 3), (94, .bipush 6, 2), (96, .iastore, 1), (97, .aload_n 0, 1), (98, .dup, 1), (99, .getfield 232, 3), (102, .iconst 1, 1), (103, .iadd, 1), (104, .putfield 232, 3), (107, .goto (-107), 3), (110, .aload_n 0, 1), (111, .iload_n 2, 1), (112, .invokevirtual 284, 3), (115, .ireturn, 1)]
def gC180 : List (Nat × Instr × Nat) := [(0, .iconst 0, 1), (1, .istore_n 2, 1), (2, .iload_n 1, 1), (3, .bipush 6, 2), (5, .if_icmp .ge 19, 3), (8, .aload_n 0, 1), (9, .iconst 1, 1), (10, .iconst 2, 1), (11, .invokevirtual 200, 3), (14, .ifCond .ne 5, 3), (17, .iconst 0, 1), (18, .ireturn, 1), (19, .aload_n 0, 1), (20, .getfield 172, 3), (23, .istore_n 2, 1), (24, .aload_n 0, 1), (25, .bipush 60, 2), (27, .invokevirtual 159, 3), (30, .ifCond .ne 27, 3), (33, .aload_n 0, 1), (34, .bipush 61, 2), (36, .invokevirtual 159, 3), (39, .ifCond .ne 18, 3), (42, .aload_n 0, 1), (43, .bipush 62, 2), (45, .invokevirtual 159, 3), (48, .ifCond .ne 9, 3), (51, .aload_n 0, 1), (52, .iconst 1, 1), (53, .invokevirtual 162, 3), (56, .ireturn, 1), (57, .aload_n 0, 1), (58, .getfield 146, 3), (61, .bipush 60, 2), (63, .isub, 1), (64, .istore_n 3, 1), (65, .aload_n 0, 1), (66, .invokevirtual 165, 3), (69, .aload_n 0, 1), (70, .getfield 136, 3), (73, .iconst 2, 1), (74, .if_icmp .eq 9, 3), (77, .aload_n 0, 1), (78, .iconst 1, 1), (79, .invokevirtual 162, 3), (82, .ireturn, 1), (83, .iload_n 1, 1), (84, .bipush 6, 2), (86, .if_icmp .ne 7, 3), (89, .iconst 1, 1), (90, .goto 14, 3), (93, .iload_n 1, 1), (94, .bipush 7, 2), (96, .if_icmp .ne 7, 3), (99, .iconst 2, 1), (100, .goto 4, 3), (103, .iconst 0, 1), (104, .istore 4, 2), (106, .aload_n 0, 1), (107, .iload 4, 2), (109, .iload_n 1, 1), (110, .bipush 6, 2), (112, .if_icmp .ge 7, 3), (115, .iload_n 1, 1), (116, .goto 4, 3), (119, .iconst 0, 1), (120, .iconst 3, 1), (121, .ishl, 1), (122, .ior, 1), (123, .iload_n 2, 1), (124, .bipush 6, 2), (126, .ishl, 1), (127, .ior, 1), (128, .iload_n 3, 1), (129, .bipush 8, 2), (131, .ishl, 1), (132, .ior, 1), (133, .aload_n 0, 1), (134, .getfield 146, 3), (137, .bipush 10, 2), (139, .ishl, 1), (140, .ior, 1), (141, .invokevirtual 244, 3), (144, .aload_n 0, 1), (145, .invokevirtual 165, 3), (148, .aload_n 0, 1), (149, .iconst 3, 1), (150, .invokevirtual 253, 3), (153, .iconst 1, 1), (154, .ireturn, 1)]
def gC181 : List (Nat × Instr × Nat) := [(0, .aload_n 0, 1), (1, .iconst 0, 1), (2, .putfield 1, 3), (5, .aload_n 0, 1), (6, .sipush 900, 3), (9, .invokevirtual 287, 3), (12, .aload_n 0, 1), (13, .iconst 0, 1), (14, .putfield 153, 3), (17, .aload_n 0, 1), (18, .iconst 0, 1), (19, .putfield 290, 3), (22, .aload_n 0, 1), (23, .iconst 0, 1), (24, .putfield 194, 3), (27, .aload_n 0, 1), (28, .iconst 0, 1), (29, .putfield 206, 3), (32, .aload_n 0, 1), (33, .iconst 0, 1), (34, .putfield 219, 3), (37, .aload_n 0, 1), (38, .invokevirtual 123, 3), (41, .aload_n 0, 1), (42, .invokevirtual 165, 3), (45, .aload_n 0, 1), (46, .getfield 136, 3), (49, .ifCond .eq 39, 3), (52, .aload_n 0, 1), (53, .invokevirtual 293, 3), (56, .ifCond .eq 12, 3), (59, .aload_n 0, 1), (60, .bipush 59, 2), (62, .invokevirtual 296, 3), (65, .ifCond .ne 10, 3), (68, .iconst (-1), 1), (69, .aload_n 0, 1), (70, .getfield 156, 3), (73, .isub, 1), (74, .ireturn, 1), (75, .aload_n 0, 1), (76, .dup, 1), (77, .getfield 290, 3), (80, .iconst 1, 1), (81, .iadd, 1), (82, .putfield 290, 3), (85, .goto (-40), 3), (88, .iconst 0, 1), (89, .istore_n 1, 1), (90, .iload_n 1, 1), (91, .sipush 681, 3), (94, .if_icmp .ge 32, 3), (97, .aload_n 0, 1), (98, .getfield 41, 3), (101, .iload_n 1, 1), (102, .iload_n 1, 1), (103, .sipush 590, 3), (106, .if_icmp .ge 12, 3), (109, .aload_n 0, 1), (110, .getfield 45, 3), (113, .iload_n 1, 1), (114, .iaload, 1), (115, .goto 4, 3), (118, .iconst 0, 1), (119, .iastore, 1), (120, .iinc 1 1, 3), (123, .goto (-33), 3), (126, .aload_n 0, 1), (127, .lconst 0, 1), (128, .putfield 299, 3), (131, .aload_n 0, 1), (132, .lconst 0, 1), (133, .putfield 302, 3), (136, .aload_n 0, 1), (137, .iconst 1, 1), (138, .putfield 65, 3), (141, .aload_n 0, 1), (142, .getfield 290, 3), (145, .ireturn, 1)]
def gC182 : List (Nat × Instr × Nat) := [(0, .aload_n 0, 1), (1, .iconst 0, 1), (2, .putfield 1, 3), (5, .aload_n 0, 1), (6, .getfield 153, 3), (9, .ireturn, 1)]
def gC183 : List (Nat × Instr × Nat) := [(0, .iload_n 1, 1), (1, .iconst 0, 1), (2, .aload_n 0, 1), (3, .getfield 41, 3), (6, .iconst 0, 1), (7, .iaload, 1), (8, .aload_n 0, 1), (9, .getfield 41, 3), (12, .iconst 1, 1), (13, .iaload, 1), (14, .imul, 1), (15, .iconst 1, 1), (16, .isub, 1), (17, .invokestatic 168, 3), (20, .ifCond .eq 19, 3), (23, .aload_n 0, 1), (24, .getfield 41, 3), (27, .bipush 6, 2), (29, .iload_n 1, 1), (30, .iadd, 1), (31, .iaload, 1), (32, .ifCond .le 7, 3), (35, .iconst 1, 1), (36, .goto 4, 3), (39, .iconst 0, 1), (40, .ireturn, 1)]
def gC184 : List (Nat × Instr × Nat) := [(0, .iload_n 1, 1), (1, .iconst 0, 1), (2, .aload_n 0, 1), (3, .getfield 41, 3), (6, .iconst 0, 1), (7, .iaload, 1), (8, .iconst 1, 1), (9, .isub, 1), (10, .invokestatic 168, 3), (13, .ifCond .eq 44, 3), (16, .iload_n 2, 1), (17, .iconst 0, 1), (18, .aload_n 0, 1), (19, .getfield 41, 3), (22, .iconst 1, 1), (23, .iaload, 1), (24, .iconst 1, 1), (25, .isub, 1), (26, .invokestatic 168, 3), (29, .ifCond .eq 28, 3), (32, .aload_n 0, 1), (33, .getfield 41, 3), (36, .bipush 6, 2), (38, .aload_n 0, 1), (39, .getfield 41, 3), (42, .iconst 1, 1), (43, .iaload, 1), (44, .iload_n 1, 1), (45, .imul, 1), (46, .iadd, 1), (47, .iload_n 2, 1), (48, .iadd, 1), (49, .iaload, 1), (50, .ifCond .le 7, 3), (53, .iconst 1, 1), (54, .goto 4, 3), (57, .iconst 0, 1), (58, .ireturn, 1)]
def gC185 : List (Nat × Instr × Nat) := [(0, .aload_n 0, 1), (1, .iload_n 1, 1), (2, .iload_n 2, 1), (3, .invokevirtual 305, 3), (6, .ifCond .eq 18, 3), (9, .lconst 1, 1), (10, .aload_n 0, 1), (11, .getfield 41, 3), (14, .iconst 1, 1), (15, .iaload, 1), (16, .iload_n 1, 1), (17, .imul, 1), (18, .iload_n 2, 1), (19, .iadd, 1), (20, .lshl, 1), (21, .goto 4, 3), (24, .lconst 0, 1), (25, .lreturn, 1)]
def gC186 : List (Nat × Instr × Nat) := [(0, .aload_n 0, 1), (1, .getfield 65, 3), (4, .ifCond .ne 4, 3), (7, .return_, 1), (8, .aload_n 0, 1), (9, .iconst 0, 1), (10, .putfield 65, 3), (13, .lconst 0, 1), (14, .lstore_n 1, 1), (15, .iconst 0, 1), (16, .istore_n 3, 1), (17, .iload_n 3, 1), (18, .aload_n 0, 1), (19, .getfield 41, 3), (22, .iconst 0, 1), (23, .iaload, 1), (24, .aload_n 0, 1), (25, .getfield 41, 3), (28, .iconst 1, 1), (29, .iaload, 1), (30, .imul, 1), (31, .if_icmp .ge 31, 3), (34, .lload_n 1, 1), (35, .aload_n 0, 1), (36, .getfield 41, 3), (39, .bipush 6, 2), (41, .iload_n 3, 1), (42, .iadd, 1), (43, .iaload, 1), (44, .ifCond .le 9, 3), (47, .lconst 1, 1), (48, .iload_n 3, 1), (49, .lshl, 1), (50, .goto 4, 3), (53, .lconst 0, 1), (54, .lor, 1), (55, .lstore_n 1, 1), (56, .iinc 3 1, 3), (59, .goto (-42), 3), (62, .iconst 0, 1), (63, .istore_n 3, 1), (64, .iload_n 3, 1), (65, .aload_n 0, 1), (66, .getfield 41, 3), (69, .iconst 0, 1), (70, .iaload, 1), (71, .aload_n 0, 1), (72, .getfield 41, 3), (75, .iconst 1, 1), (76, .iaload, 1), (77, .imul, 1), (78, .if_icmp .ge 290, 3), (81, .iload_n 3, 1), (82, .aload_n 0, 1), (83, .getfield 41, 3), (86, .iconst 1, 1), (87, .iaload, 1), (88, .idiv, 1), (89, .istore 4, 2), (91, .iload_n 3, 1), (92, .aload_n 0, 1), (93, .getfield 41, 3), (96, .iconst 1, 1), (97, .iaload, 1), (98, .irem, 1), (99, .istore 5, 2), (101, .lconst 0, 1), (102, .lstore 6, 2), (104, .iconst 0, 1), (105, .istore 8, 2), (107, .iload 8, 2), (109, .bipush 9, 2), (111, .if_icmp .ge 42, 3), (114, .iload 8, 2), (116, .iconst 4, 1), (117, .if_icmp .eq 30, 3), (120, .lload 6, 2), (122, .aload_n 0, 1), (123, .iload 4, 2), (125, .iload 8, 2), (127, .iconst 3, 1), (128, .idiv, 1), (129, .iadd, 1), (130, .iconst 1, 1), (131, .isub, 1), (132, .iload 5, 2), (134, .iload 8, 2), (136, .iconst 3, 1), (137, .irem, 1), (138, .iadd, 1), (139, .iconst 1, 1), (140, .isub, 1), (141, .invokevirtual 308, 3), (144, .lor, 1), (145, .lstore 6, 2), (147, .iinc 8 1, 3), (150, .goto (-43), 3), (153, .lconst 0, 1), (154, .lstore 8, 2), (156, .iload 4, 2), (158, .ifCond .le 26, 3), (161, .aload_n 0, 1), (162, .getfield 41, 3), (165, .bipush 6, 2), (167, .iload_n 3, 1), (168, .iadd, 1), (169, .aload_n 0, 1), (170, .getfield 41, 3), (173, .iconst 1, 1), (174, .iaload, 1), (175, .isub, 1), (176, .iaload, 1), (177, .ifCond .ne 7, 3), (180, .iconst 1, 1), (181, .goto 4, 3), (184, .iconst 0, 1), (185, .istore 10, 2), (187, .iconst 1, 1), (188, .istore 11, 2), (190, .iload 11, 2), (192, .iconst 4, 1), (193, .if_icmp .ge 51, 3), (196, .iload 10, 2), (198, .ifCond .ne 46, 3), (201, .iload 11, 2), (203, .ineg, 1), (204, .istore 12, 2), (206, .iload 12, 2), (208, .iload 11, 2), (210, .if_icmp .gt 28, 3), (213, .lload 8, 2), (215, .aload_n 0, 1), (216, .iload 4, 2), (218, .iload 11, 2), (220, .isub, 1), (221, .iload 5, 2), (223, .iload 12, 2), (225, .iadd, 1), (226, .invokevirtual 308, 3), (229, .lor, 1), (230, .lstore 8, 2), (232, .iinc 12 1, 3), (235, .goto (-29), 3), (238, .iinc 11 1, 3), (241, .goto (-51), 3), (244, .aload_n 0, 1), (245, .getfield 61, 3), (248, .bipush 6, 2), (250, .iload_n 3, 1), (251, .imul, 1), (252, .lload 6, 2), (254, .lastore, 1), (255, .aload_n 0, 1), (256, .getfield 61, 3), (259, .bipush 6, 2), (261, .iload_n 3, 1), (262, .imul, 1), (263, .iconst 1, 1), (264, .iadd, 1), (265, .aload_n 0, 1), (266, .iload 4, 2), (268, .iconst 1, 1), (269, .isub, 1), (270, .iload 5, 2), (272, .invokevirtual 308, 3), (275, .lastore, 1), (276, .aload_n 0, 1), (277, .getfield 61, 3), (280, .bipush 6, 2), (282, .iload_n 3, 1), (283, .imul, 1), (284, .iconst 2, 1), (285, .iadd, 1), (286, .aload_n 0, 1), (287, .iload 4, 2), (289, .iload 5, 2), (291, .iconst 1, 1), (292, .isub, 1), (293, .invokevirtual 308, 3), (296, .aload_n 0, 1), (297, .iload 4, 2), (299, .iload 5, 2), (301, .iconst 1, 1), (302, .iadd, 1), (303, .invokevirtual 308, 3), (306, .lor, 1), (307, .lastore, 1), (308, .aload_n 0, 1), (309, .getfield 61, 3), (312, .bipush 6, 2), (314, .iload_n 3, 1), (315, .imul, 1), (316, .iconst 3, 1), (317, .iadd, 1), (318, .aload_n 0, 1), (319, .iload 4, 2), (321, .iconst 1, 1), (322, .iadd, 1), (323, .iload 5, 2), (325, .invokevirtual 308, 3), (328, .lastore, 1), (329, .aload_n 0, 1), (330, .getfield 61, 3), (333, .bipush 6, 2), (335, .iload_n 3, 1), (336, .imul, 1), (337, .iconst 4, 1), (338, .iadd, 1), (339, .lload 8, 2), (341, .lastore, 1), (342, .aload_n 0, 1), (343, .getfield 61, 3), (346, .bipush 6, 2), (348, .iload_n 3, 1), (349, .imul, 1), (350, .iconst 5, 1), (351, .iadd, 1), (352, .lload_n 1, 1), (353, .lconst 1, 1), (354, .iload_n 3, 1), (355, .lshl, 1), (356, .ldc2_w 312, 3), (359, .lxor, 1), (360, .land, 1), (361, .lastore, 1), (362, .iinc 3 1, 3), (365, .goto (-301), 3), (368, .return_, 1)]
def gC187 : List (Nat × Instr × Nat) := [(0, .aload_n 0, 1), (1, .aload_n 0, 1), (2, .iload_n 1, 1), (3, .invokevirtual 314, 3), (6, .ifCond .eq 12, 3), (9, .iload_n 2, 1), (10, .iconst 0, 1), (11, .iconst 4, 1), (12, .invokestatic 168, 3), (15, .ifCond .ne 7, 3), (18, .iconst 1, 1), (19, .goto 4, 3), (22, .iconst 0, 1), (23, .invokevirtual 317, 3), (26, .ifCond .eq 5, 3), (29, .iconst 0, 1), (30, .ireturn, 1), (31, .iload_n 2, 1), (32, .tableswitch 86 0 3 #[32, 44, 50, 69], 32), (64, .aload_n 0, 1), (65, .getfield 41, 3), (68, .bipush 6, 2), (70, .iload_n 1, 1), (71, .iadd, 1), (72, .iaload, 1), (73, .iconst 1, 1), (74, .isub, 1), (75, .ireturn, 1), (76, .aload_n 0, 1), (77, .iload_n 1, 1), (78, .invokevirtual 321, 3), (81, .ireturn, 1), (82, .aload_n 0, 1), (83, .getfield 41, 3), (86, .bipush 78, 2), (88, .iload_n 1, 1), (89, .aload_n 0, 1), (90, .getfield 41, 3), (93, .iconst 1, 1), (94, .iaload, 1), (95, .idiv, 1), (96, .iadd, 1), (97, .iaload, 1), (98, .iconst 1, 1), (99, .isub, 1), (100, .ireturn, 1), (101, .aload_n 0, 1), (102, .getfield 299, 3), (105, .iload_n 1, 1), (106, .invokestatic 324, 3), (109, .ifCond .eq 7, 3), (112, .iconst 1, 1), (113, .goto 4, 3), (116, .iconst 0, 1), (117, .ireturn, 1), (118, .aload_n 0, 1), (119, .getfield 302, 3), (122, .iload_n 1, 1), (123, .invokestatic 324, 3), (126, .ifCond .eq 7, 3), (129, .iconst 1, 1), (130, .goto 4, 3), (133, .iconst 0, 1), (134, .ireturn, 1)]
def gC188 : List (Nat × Instr × Nat) := [(0, .aload_n 0, 1), (1, .getfield 41, 3), (4, .bipush 70, 2), (6, .iload_n 1, 1), (7, .aload_n 0, 1), (8, .getfield 41, 3), (11, .iconst 1, 1), (12, .iaload, 1), (13, .idiv, 1), (14, .iadd, 1), (15, .iaload, 1), (16, .ireturn, 1)]
def gC189 : List (Nat × Instr × Nat) := [(0, .aload_n 0, 1), (1, .iconst 0, 1), (2, .putfield 1, 3), (5, .iload_n 1, 1), (6, .iconst 0, 1), (7, .iconst 5, 1), (8, .invokestatic 168, 3), (11, .ifCond .eq 12, 3), (14, .iload_n 2, 1), (15, .iconst 0, 1), (16, .iconst 1, 1), (17, .invokestatic 168, 3), (20, .ifCond .ne 5, 3), (23, .iconst (-1), 1), (24, .ireturn, 1), (25, .aload_n 0, 1), (26, .getfield 41, 3), (29, .bipush 86, 2), (31, .bipush 42, 2), (33, .iconst 2, 1), (34, .iload_n 1, 1), (35, .imul, 1), (36, .iload_n 2, 1), (37, .iadd, 1), (38, .imul, 1), (39, .iadd, 1), (40, .iaload, 1), (41, .istore_n 3, 1), (42, .iload_n 3, 1), (43, .ifCond .ne 7, 3), (46, .iconst (-1), 1), (47, .goto 4, 3), (50, .iload_n 3, 1), (51, .ireturn, 1)]
def gC190 : List (Nat × Instr × Nat) := [(0, .aload_n 0, 1), (1, .iconst 0, 1), (2, .putfield 1, 3), (5, .aload_n 0, 1), (6, .iload_n 1, 1), (7, .invokevirtual 314, 3), (10, .ifCond .eq 12, 3), (13, .iload_n 2, 1), (14, .iconst 0, 1), (15, .iconst 1, 1), (16, .invokestatic 168, 3), (19, .ifCond .ne 5, 3), (22, .iconst 0, 1), (23, .ireturn, 1), (24, .aload_n 0, 1), (25, .iload_n 2, 1), (26, .iconst 1, 1), (27, .if_icmp .ne 14, 3), (30, .aload_n 0, 1), (31, .getfield 299, 3), (34, .lconst 1, 1), (35, .iload_n 1, 1), (36, .lshl, 1), (37, .lor, 1), (38, .goto 15, 3), (41, .aload_n 0, 1), (42, .getfield 299, 3), (45, .lconst 1, 1), (46, .iload_n 1, 1), (47, .lshl, 1), (48, .ldc2_w 312, 3), (51, .lxor, 1), (52, .land, 1), (53, .putfield 299, 3), (56, .iconst 1, 1), (57, .ireturn, 1)]
def gC191 : List (Nat × Instr × Nat) := [(0, .aload_n 0, 1), (1, .iconst 0, 1), (2, .putfield 1, 3), (5, .aload_n 0, 1), (6, .iload_n 1, 1), (7, .invokevirtual 314, 3), (10, .ifCond .eq 12, 3), (13, .iload_n 2, 1), (14, .iconst 0, 1), (15, .iconst 1, 1), (16, .invokestatic 168, 3), (19, .ifCond .ne 5, 3), (22, .iconst 0, 1), (23, .ireturn, 1), (24, .aload_n 0, 1), (25, .iload_n 2, 1), (26, .iconst 1, 1), (27, .if_icmp .ne 14, 3), (30, .aload_n 0, 1), (31, .getfield 302, 3), (34, .lconst 1, 1), (35, .iload_n 1, 1), (36, .lshl, 1), (37, .lor, 1), (38, .goto 15, 3), (41, .aload_n 0, 1), (42, .getfield 302, 3), (45, .lconst 1, 1), (46, .iload_n 1, 1), (47, .lshl, 1), (48, .ldc2_w 312, 3), (51, .lxor, 1), (52, .land, 1), (53, .putfield 302, 3), (56, .iconst 1, 1), (57, .ireturn, 1)]
def gC192 : List (Nat × Instr × Nat) := [(0, .aload_n 0, 1), (1, .ldc2_w 328, 3), (4, .invokevirtual 177, 3), (7, .ifCond .ne 9, 3), (10, .aload_n 0, 1), (11, .iconst 1, 1), (12, .invokevirtual 162, 3), (15, .ireturn, 1), (16, .aload_n 0, 1), (17, .getfield 330, 3), (20, .bipush 30, 2), (22, .if_icmp .ne 9, 3), (25, .aload_n 0, 1), (26, .iconst 4, 1), (27, .invokevirtual 162, 3), (30, .ireturn, 1), (31, .aload_n 0, 1), (32, .invokevirtual 165, 3), (35, .iconst 3, 1), (36, .aload_n 0, 1), (37, .getfield 330, 3), (40, .imul, 1), (41, .istore_n 1, 1), (42, .aload_n 0, 1), (43, .aload_n 0, 1), (44, .getfield 330, 3), (47, .ifCond .ne 7, 3), (50, .iconst 0, 1), (51, .goto 11, 3), (54, .aload_n 0, 1), (55, .getfield 48, 3), (58, .iload_n 1, 1), (59, .iconst 3, 1), (60, .isub, 1), (61, .iaload, 1), (62, .sipush 600, 3), (65, .invokevirtual 200, 3), (68, .ifCond .ne 5, 3), (71, .iconst 0, 1), (72, .ireturn, 1), (73, .aload_n 0, 1), (74, .getfield 48, 3), (77, .iload_n 1, 1), (78, .aload_n 0, 1), (79, .getfield 172, 3), (82, .iastore, 1), (83, .aload_n 0, 1), (84, .ldc2_w 333, 3), (87, .invokevirtual 177, 3), (90, .ifCond .eq 7, 3), (93, .iconst 0, 1), (94, .goto 46, 3), (97, .aload_n 0, 1), (98, .ldc2_w 335, 3), (101, .invokevirtual 177, 3), (104, .ifCond .eq 7, 3), (107, .iconst 1, 1), (108, .goto 32, 3), (111, .aload_n 0, 1), (112, .ldc2_w 337, 3), (115, .invokevirtual 177, 3), (118, .ifCond .eq 7, 3), (121, .iconst 2, 1), (122, .goto 18, 3), (125, .aload_n 0, 1), (126, .ldc2_w 339, 3), (129, .invokevirtual 177, 3), (132, .ifCond .eq 7, 3), (135, .iconst 3, 1), (136, .goto 4, 3), (139, .iconst (-1), 1), (140, .istore_n 2, 1), (141, .iload_n 2, 1), (142, .ifCond .ge 9, 3), (145, .aload_n 0, 1), (146, .iconst 1, 1), (147, .invokevirtual 162, 3), (150, .ireturn, 1), (151, .aload_n 0, 1), (152, .getfield 48, 3), (155, .iload_n 1, 1), (156, .iconst 1, 1), (157, .iadd, 1), (158, .iload_n 2, 1), (159, .iastore, 1), (160, .aload_n 0, 1), (161, .getfield 48, 3), (164, .iload_n 1, 1), (165, .iconst 2, 1), (166, .iadd, 1), (167, .iconst (-1), 1), (168, .iastore, 1), (169, .aload_n 0, 1), (170, .invokevirtual 165, 3), (173, .iload_n 2, 1), (174, .iconst 3, 1), (175, .if_icmp .ne 5, 3), (178, .iconst 1, 1), (179, .ireturn, 1), (180, .aload_n 0, 1), (181, .iconst 0, 1), (182, .aload_n 0, 1), (183, .getfield 41, 3), (186, .iconst 0, 1), (187, .iaload, 1), (188, .iconst 1, 1), (189, .isub, 1), (190, .invokevirtual 200, 3), (193, .ifCond .ne 5, 3), (196, .iconst 0, 1), (197, .ireturn, 1), (198, .aload_n 0, 1), (199, .getfield 172, 3), (202, .istore_n 3, 1), (203, .aload_n 0, 1), (204, .getfield 136, 3), (207, .iconst 2, 1), (208, .if_icmp .eq 9, 3), (211, .aload_n 0, 1), (212, .iconst 1, 1), (213, .invokevirtual 162, 3), (216, .ireturn, 1), (217, .aload_n 0, 1), (218, .iload_n 3, 1), (219, .aload_n 0, 1), (220, .getfield 146, 3), (223, .invokevirtual 305, 3), (226, .ifCond .ne 9, 3), (229, .aload_n 0, 1), (230, .iconst 2, 1), (231, .invokevirtual 162, 3), (234, .ireturn, 1), (235, .aload_n 0, 1), (236, .getfield 48, 3), (239, .iload_n 1, 1), (240, .iconst 2, 1), (241, .iadd, 1), (242, .aload_n 0, 1), (243, .getfield 41, 3), (246, .iconst 1, 1), (247, .iaload, 1), (248, .iload_n 3, 1), (249, .imul, 1), (250, .aload_n 0, 1), (251, .getfield 146, 3), (254, .iadd, 1), (255, .iastore, 1), (256, .aload_n 0, 1), (257, .invokevirtual 165, 3), (260, .iconst 1, 1), (261, .ireturn, 1)]
def gC193 : List (Nat × Instr × Nat) := [(0, .aload_n 0, 1), (1, .iconst 0, 1), (2, .putfield 1, 3), (5, .aload_n 0, 1), (6, .sipush 400, 3), (9, .invokevirtual 287, 3), (12, .aload_n 0, 1), (13, .iconst 0, 1), (14, .putfield 153, 3), (17, .aload_n 0, 1), (18, .iconst 0, 1), (19, .putfield 330, 3), (22, .aload_n 0, 1), (23, .invokevirtual 165, 3), (26, .aload_n 0, 1), (27, .getfield 136, 3), (30, .ifCond .eq 39, 3), (33, .aload_n 0, 1), (34, .invokevirtual 341, 3), (37, .ifCond .eq 12, 3), (40, .aload_n 0, 1), (41, .bipush 59, 2), (43, .invokevirtual 296, 3), (46, .ifCond .ne 10, 3), (49, .iconst (-1), 1), (50, .aload_n 0, 1), (51, .getfield 156, 3), (54, .isub, 1), (55, .ireturn, 1), (56, .aload_n 0, 1), (57, .dup, 1), (58, .getfield 330, 3), (61, .iconst 1, 1), (62, .iadd, 1), (63, .putfield 330, 3), (66, .goto (-40), 3), (69, .aload_n 0, 1), (70, .getfield 41, 3), (73, .sipush 590, 3), (76, .aload_n 0, 1), (77, .getfield 330, 3), (80, .iastore, 1), (81, .iconst 0, 1), (82, .istore_n 1, 1), (83, .iload_n 1, 1), (84, .iconst 3, 1), (85, .aload_n 0, 1), (86, .getfield 330, 3), (89, .imul, 1), (90, .if_icmp .ge 25, 3), (93, .aload_n 0, 1), (94, .getfield 41, 3), (97, .sipush 591, 3), (100, .iload_n 1, 1), (101, .iadd, 1), (102, .aload_n 0, 1), (103, .getfield 48, 3), (106, .iload_n 1, 1), (107, .iaload, 1), (108, .iastore, 1), (109, .iinc 1 1, 3), (112, .goto (-29), 3), (115, .aload_n 0, 1), (116, .getfield 330, 3), (119, .ireturn, 1)]
def gC194 : List (Nat × Instr × Nat) := [(0, .aload_n 0, 1), (1, .iload_n 1, 1), (2, .iconst 0, 1), (3, .aload_n 0, 1), (4, .getfield 41, 3), (7, .sipush 590, 3), (10, .iaload, 1), (11, .iconst 1, 1), (12, .isub, 1), (13, .invokestatic 168, 3), (16, .ifCond .eq 12, 3), (19, .iload_n 2, 1), (20, .iconst 0, 1), (21, .iconst 2, 1), (22, .invokestatic 168, 3), (25, .ifCond .ne 7, 3), (28, .iconst 1, 1), (29, .goto 4, 3), (32, .iconst 0, 1), (33, .invokevirtual 317, 3), (36, .ifCond .eq 7, 3), (39, .iconst 0, 1), (40, .goto 17, 3), (43, .aload_n 0, 1), (44, .getfield 41, 3), (47, .sipush 591, 3), (50, .iconst 3, 1), (51, .iload_n 1, 1), (52, .imul, 1), (53, .iadd, 1), (54, .iload_n 2, 1), (55, .iadd, 1), (56, .iaload, 1), (57, .ireturn, 1)]
def gC195 : List (Nat × Instr × Nat) := [(0, .iconst 0, 1), (1, .istore 9, 2), (3, .iconst 0, 1), (4, .istore 10, 2), (6, .iload 10, 2), (8, .aload_n 0, 1), (9, .getfield 41, 3), (12, .iload_n 1, 1), (13, .iconst 1, 1), (14, .iadd, 1), (15, .iaload, 1), (16, .if_icmp .ge 295, 3), (19, .aload_n 0, 1), (20, .getfield 41, 3), (23, .iload_n 1, 1), (24, .iconst 2, 1), (25, .iadd, 1), (26, .iload 10, 2), (28, .iadd, 1), (29, .iaload, 1), (30, .istore 11, 2), (32, .iload 11, 2), (34, .bipush 7, 2), (36, .iand, 1), (37, .istore 12, 2), (39, .iload 12, 2), (41, .iconst 3, 1), (42, .if_icmp .ne 32, 3), (45, .aload_n 0, 1), (46, .getfield 57, 3), (49, .iload 9, 2), (51, .iconst 1, 1), (52, .isub, 1), (53, .aload_n 0, 1), (54, .getfield 57, 3), (57, .iload 9, 2), (59, .iconst 1, 1), (60, .isub, 1), (61, .baload, 1), (62, .ifCond .ne 7, 3), (65, .iconst 1, 1), (66, .goto 4, 3), (69, .iconst 0, 1), (70, .bastore, 1), (71, .goto 234, 3), (74, .iload 12, 2), (76, .iconst 4, 1), (77, .if_icmp .eq 9, 3), (80, .iload 12, 2), (82, .iconst 5, 1), (83, .if_icmp .ne 81, 3), (86, .iinc 9 (-1), 3), (89, .aload_n 0, 1), (90, .getfield 57, 3), (93, .iload 9, 2), (95, .iconst 1, 1), (96, .isub, 1), (97, .iload 12, 2), (99, .iconst 4, 1), (100, .if_icmp .ne 33, 3), (103, .aload_n 0, 1), (104, .getfield 57, 3), (107, .iload 9, 2), (109, .iconst 1, 1), (110, .isub, 1), (111, .baload, 1), (112, .ifCond .eq 17, 3), (115, .aload_n 0, 1), (116, .getfield 57, 3), (119, .iload 9, 2), (121, .baload, 1), (122, .ifCond .eq 7, 3), (125, .iconst 1, 1), (126, .goto 34, 3), (129, .iconst 0, 1), (130, .goto 30, 3), (133, .aload_n 0, 1), (134, .getfield 57, 3), (137, .iload 9, 2), (139, .iconst 1, 1), (140, .isub, 1), (141, .baload, 1), (142, .ifCond .ne 13, 3), (145, .aload_n 0, 1), (146, .getfield 57, 3), (149, .iload 9, 2), (151, .baload, 1), (152, .ifCond .eq 7, 3), (155, .iconst 1, 1), (156, .goto 4, 3), (159, .iconst 0, 1), (160, .bastore, 1), (161, .goto 144, 3), (164, .iload 12, 2), (166, .iconst 1, 1), (167, .if_icmp .ne 8, 3), (170, .iload 7, 2), (172, .goto 52, 3), (175, .iload 12, 2), (177, .iconst 2, 1), (178, .if_icmp .ne 8, 3), (181, .iload 8, 2), (183, .goto 41, 3), (186, .aload_n 0, 1), (187, .getfield 61, 3), (190, .bipush 6, 2), (192, .iload_n 2, 1), (193, .imul, 1), (194, .iload 11, 2), (196, .iconst 3, 1), (197, .ishr, 1), (198, .bipush 7, 2), (200, .iand, 1), (201, .iadd, 1), (202, .laload, 1), (203, .iload 11, 2), (205, .bipush 6, 2), (207, .ishr, 1), (208, .iconst 3, 1), (209, .iand, 1), (210, .iconst 1, 1), (211, .if_icmp .ne 7, 3), (214, .lload_n 3, 1), (215, .goto 5, 3), (218, .lload 5, 2), (220, .land, 1), (221, .invokestatic 344, 3), (224, .istore 13, 2), (226, .iload 11, 2), (228, .bipush 8, 2), (230, .ishr, 1), (231, .iconst 3, 1), (232, .iand, 1), (233, .istore 14, 2), (235, .iload 11, 2), (237, .bipush 10, 2), (239, .ishr, 1), (240, .istore 15, 2), (242, .aload_n 0, 1), (243, .getfield 57, 3), (246, .iload 9, 2), (248, .iload 14, 2), (250, .ifCond .ne 18, 3), (253, .iload 13, 2), (255, .iload 15, 2), (257, .if_icmp .ge 7, 3), (260, .iconst 1, 1), (261, .goto 40, 3), (264, .iconst 0, 1), (265, .goto 36, 3), (268, .iload 14, 2), (270, .iconst 1, 1), (271, .if_icmp .ne 18, 3), (274, .iload 13, 2), (276, .iload 15, 2), (278, .if_icmp .ne 7, 3), (281, .iconst 1, 1), (282, .goto 19, 3), (285, .iconst 0, 1), (286, .goto 15, 3), (289, .iload 13, 2), (291, .iload 15, 2), (293, .if_icmp .le 7, 3), (296, .iconst 1, 1), (297, .goto 4, 3), (300, .iconst 0, 1), (301, .bastore, 1), (302, .iinc 9 1, 3), (305, .iinc 10 1, 3), (308, .goto (-302), 3), (311, .aload_n 0, 1), (312, .getfield 57, 3), (315, .iconst 0, 1), (316, .baload, 1), (317, .ireturn, 1)]
def gC196 : List (Nat × Instr × Nat) := [(0, .aload_n 0, 1), (1, .getfield 348, 3), (4, .iload_n 1, 1), (5, .invokestatic 324, 3), (8, .ifCond .eq 7, 3), (11, .iconst 2, 1), (12, .goto 19, 3), (15, .aload_n 0, 1), (16, .getfield 351, 3), (19, .iload_n 1, 1), (20, .invokestatic 324, 3), (23, .ifCond .eq 7, 3), (26, .iconst 1, 1), (27, .goto 4, 3), (30, .iconst 0, 1), (31, .ireturn, 1)]
def gC197 : List (Nat × Instr × Nat) := [(0, .aload_n 0, 1), (1, .getfield 354, 3), (4, .iload_n 1, 1), (5, .invokestatic 324, 3), (8, .ifCond .eq 7, 3), (11, .iconst 1, 1), (12, .goto 4, 3), (15, .iconst 0, 1), (16, .aload_n 0, 1), (17, .getfield 357, 3), (20, .iload_n 1, 1), (21, .invokestatic 324, 3), (24, .ifCond .eq 7, 3), (27, .iconst 2, 1), (28, .goto 4, 3), (31, .iconst 0, 1), (32, .iadd, 1), (33, .ireturn, 1)]
def gC198 : List (Nat × Instr × Nat) := [(0, .bipush 86, 2), (2, .bipush 84, 2), (4, .aload_n 0, 1), (5, .getfield 41, 3), (8, .bipush 6, 2), (10, .iload_n 1, 1), (11, .iadd, 1), (12, .iaload, 1), (13, .iconst 1, 1), (14, .isub, 1), (15, .imul, 1), (16, .iadd, 1), (17, .istore 8, 2), (19, .aload_n 0, 1), (20, .getfield 41, 3), (23, .iload 8, 2), (25, .iaload, 1), (26, .ifCond .le 35, 3), (29, .aload_n 0, 1), (30, .iload 8, 2), (32, .iload_n 1, 1), (33, .lload_n 2, 1), (34, .lload 4, 2), (36, .iload 6, 2), (38, .iload 7, 2), (40, .invokevirtual 360, 3), (43, .ifCond .eq 18, 3), (46, .iload 6, 2), (48, .iconst 2, 1), (49, .if_icmp .ge 10, 3), (52, .iload 6, 2), (54, .iconst 1, 1), (55, .iadd, 1), (56, .goto 4, 3), (59, .iconst 2, 1), (60, .ireturn, 1), (61, .aload_n 0, 1), (62, .getfield 41, 3), (65, .iload 8, 2), (67, .bipush 42, 2), (69, .iadd, 1), (70, .iaload, 1), (71, .ifCond .le 37, 3), (74, .aload_n 0, 1), (75, .iload 8, 2), (77, .bipush 42, 2), (79, .iadd, 1), (80, .iload_n 1, 1), (81, .lload_n 2, 1), (82, .lload 4, 2), (84, .iload 6, 2), (86, .iload 7, 2), (88, .invokevirtual 360, 3), (91, .ifCond .eq 17, 3), (94, .iload 6, 2), (96, .ifCond .le 10, 3), (99, .iload 6, 2), (101, .iconst 1, 1), (102, .isub, 1), (103, .goto 4, 3), (106, .iconst 0, 1), (107, .ireturn, 1), (108, .iload 6, 2), (110, .ireturn, 1)]
def gC199 : List (Nat × Instr × Nat) := [(0, .aload_n 0, 1), (1, .invokevirtual 364, 3), (4, .aload_n 0, 1), (5, .lload_n 1, 1), (6, .putfield 367, 3), (9, .aload_n 0, 1), (10, .lload_n 3, 1), (11, .putfield 370, 3), (14, .aload_n 0, 1), (15, .iconst 0, 1), (16, .putfield 373, 3), (19, .aload_n 0, 1), (20, .iconst 0, 1), (21, .putfield 376, 3), (24, .aload_n 0, 1), (25, .lconst 0, 1), (26, .putfield 351, 3), (29, .aload_n 0, 1), (30, .lconst 0, 1), (31, .putfield 348, 3), (34, .aload_n 0, 1), (35, .lconst 0, 1), (36, .putfield 354, 3), (39, .aload_n 0, 1), (40, .lconst 0, 1), (41, .putfield 357, 3), (44, .return_, 1)]
def gC200 : List (Nat × Instr × Nat) := [(0, .aload_n 0, 1), (1, .getfield 373, 3), (4, .istore_n 1, 1), (5, .iconst 0, 1), (6, .istore_n 2, 1), (7, .aload_n 0, 1), (8, .getfield 376, 3), (11, .aload_n 0, 1), (12, .getfield 41, 3), (15, .sipush 590, 3), (18, .iaload, 1), (19, .if_icmp .ge 157, 3), (22, .aload_n 0, 1), (23, .getfield 41, 3), (26, .sipush 591, 3), (29, .iconst 3, 1), (30, .aload_n 0, 1), (31, .getfield 376, 3), (34, .imul, 1), (35, .iadd, 1), (36, .iaload, 1), (37, .iload_n 1, 1), (38, .if_icmp .ne 138, 3), (41, .aload_n 0, 1), (42, .getfield 41, 3), (45, .sipush 591, 3), (48, .iconst 3, 1), (49, .aload_n 0, 1), (50, .getfield 376, 3), (53, .imul, 1), (54, .iadd, 1), (55, .iconst 1, 1), (56, .iadd, 1), (57, .iaload, 1), (58, .istore_n 3, 1), (59, .iload_n 3, 1), (60, .iconst 3, 1), (61, .if_icmp .ne 7, 3), (64, .lconst 0, 1), (65, .goto 22, 3), (68, .lconst 1, 1), (69, .aload_n 0, 1), (70, .getfield 41, 3), (73, .sipush 591, 3), (76, .iconst 3, 1), (77, .aload_n 0, 1), (78, .getfield 376, 3), (81, .imul, 1), (82, .iadd, 1), (83, .iconst 2, 1), (84, .iadd, 1), (85, .iaload, 1), (86, .lshl, 1), (87, .lstore 4, 2), (89, .iload_n 2, 1), (90, .ifCond .ne 8, 3), (93, .iload_n 3, 1), (94, .iconst 3, 1), (95, .if_icmp .ne 7, 3), (98, .iconst 1, 1), (99, .goto 4, 3), (102, .iconst 0, 1), (103, .istore_n 2, 1), (104, .aload_n 0, 1), (105, .iload_n 3, 1), (106, .ifCond .ne 13, 3), (109, .aload_n 0, 1), (110, .getfield 367, 3), (113, .lload 4, 2), (115, .lor, 1), (116, .goto 14, 3), (119, .aload_n 0, 1), (120, .getfield 367, 3), (123, .lload 4, 2), (125, .ldc2_w 312, 3), (128, .lxor, 1), (129, .land, 1), (130, .putfield 367, 3), (133, .aload_n 0, 1), (134, .iload_n 3, 1), (135, .iconst 1, 1), (136, .if_icmp .ne 13, 3), (139, .aload_n 0, 1), (140, .getfield 370, 3), (143, .lload 4, 2), (145, .lor, 1), (146, .goto 14, 3), (149, .aload_n 0, 1), (150, .getfield 370, 3), (153, .lload 4, 2), (155, .ldc2_w 312, 3), (158, .lxor, 1), (159, .land, 1), (160, .putfield 370, 3), (163, .aload_n 0, 1), (164, .dup, 1), (165, .getfield 376, 3), (168, .iconst 1, 1), (169, .iadd, 1), (170, .putfield 376, 3), (173, .goto (-166), 3), (176, .aload_n 0, 1), (177, .getfield 351, 3), (180, .lstore_n 3, 1), (181, .aload_n 0, 1), (182, .getfield 348, 3), (185, .lstore 5, 2), (187, .lconst 0, 1), (188, .lstore 7, 2), (190, .lconst 0, 1), (191, .lstore 9, 2), (193, .lconst 0, 1), (194, .lstore 11, 2), (196, .lconst 0, 1), (197, .lstore 13, 2), (199, .iconst 0, 1), (200, .istore 15, 2), (202, .iload 15, 2), (204, .aload_n 0, 1), (205, .getfield 41, 3), (208, .iconst 0, 1), (209, .iaload, 1), (210, .if_icmp .ge 383, 3), (213, .aload_n 0, 1), (214, .getfield 41, 3), (217, .bipush 78, 2), (219, .iload 15, 2), (221, .iadd, 1), (222, .iaload, 1), (223, .ifCond .le 23, 3), (226, .iload_n 1, 1), (227, .aload_n 0, 1), (228, .getfield 41, 3), (231, .bipush 78, 2), (233, .iload 15, 2), (235, .iadd, 1), (236, .iaload, 1), (237, .iconst 1, 1), (238, .isub, 1), (239, .if_icmp .lt 7, 3), (242, .iconst 1, 1), (243, .goto 4, 3), (246, .iconst 0, 1), (247, .istore 16, 2), (249, .aload_n 0, 1), (250, .getfield 41, 3), (253, .iconst 1, 1), (254, .iaload, 1), (255, .iload 15, 2), (257, .imul, 1), (258, .istore 17, 2), (260, .iload 17, 2), (262, .aload_n 0, 1), (263, .getfield 41, 3), (266, .iconst 1, 1), (267, .iaload, 1), (268, .iload 15, 2), (270, .iconst 1, 1), (271, .iadd, 1), (272, .imul, 1), (273, .if_icmp .ge 231, 3), (276, .aload_n 0, 1), (277, .getfield 41, 3), (280, .bipush 6, 2), (282, .iload 17, 2), (284, .iadd, 1), (285, .iaload, 1), (286, .ifCond .ne 6, 3), (289, .goto 209, 3), (292, .lconst 1, 1), (293, .iload 17, 2), (295, .lshl, 1), (296, .lstore 18, 2), (298, .aload_n 0, 1), (299, .iload 17, 2), (301, .invokevirtual 379, 3), (304, .istore 20, 2), (306, .iload 16, 2), (308, .ifCond .ne 15, 3), (311, .aload_n 0, 1), (312, .getfield 370, 3), (315, .lload 18, 2), (317, .land, 1), (318, .lconst 0, 1), (319, .lcmp, 1), (320, .ifCond .eq 9, 3), (323, .iconst 0, 1), (324, .istore 21, 2), (326, .goto 64, 3), (329, .aload_n 0, 1), (330, .getfield 367, 3), (333, .lload 18, 2), (335, .land, 1), (336, .lconst 0, 1), (337, .lcmp, 1), (338, .ifCond .eq 19, 3), (341, .iload_n 1, 1), (342, .aload_n 0, 1), (343, .getfield 41, 3), (346, .iconst 4, 1), (347, .iaload, 1), (348, .if_icmp .gt 9, 3), (351, .iconst 2, 1), (352, .istore 21, 2), (354, .goto 36, 3), (357, .iload_n 2, 1), (358, .ifCond .ne 7, 3), (361, .iload_n 1, 1), (362, .ifCond .ne 9, 3), (365, .iconst 0, 1), (366, .istore 21, 2), (368, .goto 22, 3), (371, .aload_n 0, 1), (372, .iload 17, 2), (374, .lload_n 3, 1), (375, .lload 5, 2), (377, .iload 20, 2), (379, .aload_n 0, 1), (380, .iload 17, 2), (382, .invokevirtual 382, 3), (385, .invokevirtual 385, 3), (388, .istore 21, 2), (390, .iload_n 1, 1), (391, .ifCond .eq 10, 3), (394, .iload 21, 2), (396, .iload 20, 2), (398, .if_icmp .eq 7, 3), (401, .iconst 0, 1), (402, .goto 25, 3), (405, .aload_n 0, 1), (406, .iload 17, 2), (408, .invokevirtual 382, 3), (411, .iconst 3, 1), (412, .if_icmp .ge 14, 3), (415, .aload_n 0, 1), (416, .iload 17, 2), (418, .invokevirtual 382, 3), (421, .iconst 1, 1), (422, .iadd, 1), (423, .goto 4, 3), (426, .iconst 3, 1), (427, .istore 22, 2), (429, .lload 7, 2), (431, .iload 21, 2), (433, .ifCond .le 8, 3), (436, .lload 18, 2), (438, .goto 4, 3), (441, .lconst 0, 1), (442, .lor, 1), (443, .lstore 7, 2), (445, .lload 9, 2), (447, .iload 21, 2), (449, .iconst 1, 1), (450, .if_icmp .le 8, 3), (453, .lload 18, 2), (455, .goto 4, 3), (458, .lconst 0, 1), (459, .lor, 1), (460, .lstore 9, 2), (462, .lload 11, 2), (464, .iload 22, 2), (466, .iconst 1, 1), (467, .iand, 1), (468, .iconst 1, 1), (469, .if_icmp .ne 8, 3), (472, .lload 18, 2), (474, .goto 4, 3), (477, .lconst 0, 1), (478, .lor, 1), (479, .lstore 11, 2), (481, .lload 13, 2), (483, .iload 22, 2), (485, .iconst 1, 1), (486, .if_icmp .le 8, 3), (489, .lload 18, 2), (491, .goto 4, 3), (494, .lconst 0, 1), (495, .lor, 1), (496, .lstore 13, 2), (498, .iinc 17 1, 3), (501, .goto (-241), 3), (504, .aload_n 0, 1), (505, .getfield 41, 3), (508, .iconst 5, 1), (509, .iaload, 1), (510, .ifCond .ne 6, 3), (513, .goto 74, 3), (516, .aload_n 0, 1), (517, .getfield 41, 3), (520, .iconst 1, 1), (521, .iaload, 1), (522, .iload 15, 2), (524, .iconst 1, 1), (525, .iadd, 1), (526, .imul, 1), (527, .istore 17, 2), (529, .iload 17, 2), (531, .bipush 64, 2), (533, .if_icmp .ne 9, 3), (536, .ldc2_w 312, 3), (539, .goto 9, 3), (542, .lconst 1, 1), (543, .iload 17, 2), (545, .lshl, 1), (546, .lconst 1, 1), (547, .lsub, 1), (548, .lstore 18, 2), (550, .lload 7, 2), (552, .lload 18, 2), (554, .land, 1), (555, .aload_n 0, 1), (556, .getfield 351, 3), (559, .lload 18, 2), (561, .ldc2_w 312, 3), (564, .lxor, 1), (565, .land, 1), (566, .lor, 1), (567, .lstore_n 3, 1), (568, .lload 9, 2), (570, .lload 18, 2), (572, .land, 1), (573, .aload_n 0, 1), (574, .getfield 348, 3), (577, .lload 18, 2), (579, .ldc2_w 312, 3), (582, .lxor, 1), (583, .land, 1), (584, .lor, 1), (585, .lstore 5, 2), (587, .iinc 15 1, 3), (590, .goto (-388), 3), (593, .aload_n 0, 1), (594, .lload 7, 2), (596, .putfield 351, 3), (599, .aload_n 0, 1), (600, .lload 9, 2), (602, .putfield 348, 3), (605, .aload_n 0, 1), (606, .lload 11, 2), (608, .putfield 354, 3), (611, .aload_n 0, 1), (612, .lload 13, 2), (614, .putfield 357, 3), (617, .aload_n 0, 1), (618, .getfield 69, 3), (621, .iload_n 1, 1), (622, .aload_n 0, 1), (623, .getfield 351, 3), (626, .lastore, 1), (627, .aload_n 0, 1), (628, .getfield 72, 3), (631, .iload_n 1, 1), (632, .aload_n 0, 1), (633, .getfield 348, 3), (636, .lastore, 1), (637, .aload_n 0, 1), (638, .getfield 75, 3), (641, .iload_n 1, 1), (642, .aload_n 0, 1), (643, .getfield 354, 3), (646, .lastore, 1), (647, .aload_n 0, 1), (648, .getfield 78, 3), (651, .iload_n 1, 1), (652, .aload_n 0, 1), (653, .getfield 357, 3), (656, .lastore, 1), (657, .aload_n 0, 1), (658, .dup, 1), (659, .getfield 373, 3), (662, .iconst 1, 1), (663, .iadd, 1), (664, .putfield 373, 3), (667, .return_, 1)]
def gC201 : List (Nat × Instr × Nat) := [(0, .aload_n 0, 1), (1, .aload_n 0, 1), (2, .getfield 299, 3), (5, .aload_n 0, 1), (6, .getfield 302, 3), (9, .invokevirtual 389, 3), (12, .aload_n 0, 1), (13, .getfield 373, 3), (16, .iload_n 1, 1), (17, .if_icmp .gt 10, 3), (20, .aload_n 0, 1), (21, .invokevirtual 393, 3), (24, .goto (-12), 3), (27, .return_, 1)]
def gC202 : List (Nat × Instr × Nat) := [(0, .aload_n 0, 1), (1, .lload_n 1, 1), (2, .lload_n 3, 1), (3, .invokevirtual 389, 3), (6, .aload_n 0, 1), (7, .iconst 0, 1), (8, .putfield 396, 3), (11, .aload_n 0, 1), (12, .getfield 373, 3), (15, .bipush 60, 2), (17, .if_icmp .gt 41, 3), (20, .aload_n 0, 1), (21, .invokevirtual 393, 3), (24, .aload_n 0, 1), (25, .getfield 348, 3), (28, .invokestatic 344, 3), (31, .istore 5, 2), (33, .aload_n 0, 1), (34, .iload 5, 2), (36, .aload_n 0, 1), (37, .getfield 396, 3), (40, .if_icmp .le 8, 3), (43, .iload 5, 2), (45, .goto 7, 3), (48, .aload_n 0, 1), (49, .getfield 396, 3), (52, .putfield 396, 3), (55, .goto (-44), 3), (58, .aload_n 0, 1), (59, .aload_n 0, 1), (60, .getfield 396, 3), (63, .aload_n 0, 1), (64, .getfield 41, 3), (67, .iconst 3, 1), (68, .iaload, 1), (69, .if_icmp .lt 7, 3), (72, .iconst 1, 1), (73, .goto 4, 3), (76, .iconst 0, 1), (77, .putfield 399, 3), (80, .aload_n 0, 1), (81, .getfield 396, 3), (84, .ireturn, 1)]
def gC203 : List (Nat × Instr × Nat) := [(0, .iload_n 0, 1), (1, .iconst 0, 1), (2, .sipush 600, 3), (5, .invokestatic 168, 3), (8, .ireturn, 1)]
def gC204 : List (Nat × Instr × Nat) := [(0, .aload_n 0, 1), (1, .iconst 0, 1), (2, .putfield 1, 3), (5, .aload_n 0, 1), (6, .iload_n 1, 1), (7, .invokevirtual 314, 3), (10, .ifCond .eq 29, 3), (13, .iload_n 2, 1), (14, .invokestatic 402, 3), (17, .ifCond .eq 22, 3), (20, .iload_n 3, 1), (21, .iconst 0, 1), (22, .iconst 5, 1), (23, .invokestatic 168, 3), (26, .ifCond .eq 13, 3), (29, .iload 4, 2), (31, .iconst 1, 1), (32, .iconst 2, 1), (33, .invokestatic 168, 3), (36, .ifCond .ne 5, 3), (39, .iconst (-1), 1), (40, .ireturn, 1), (41, .aload_n 0, 1), (42, .iload_n 2, 1), (43, .invokevirtual 405, 3), (46, .aload_n 0, 1), (47, .getfield 61, 3), (50, .bipush 6, 2), (52, .iload_n 1, 1), (53, .imul, 1), (54, .iload_n 3, 1), (55, .iadd, 1), (56, .laload, 1), (57, .iload 4, 2), (59, .iconst 1, 1), (60, .if_icmp .ne 10, 3), (63, .aload_n 0, 1), (64, .getfield 351, 3), (67, .goto 7, 3), (70, .aload_n 0, 1), (71, .getfield 348, 3), (74, .land, 1), (75, .invokestatic 344, 3), (78, .ireturn, 1)]
def gC205 : List (Nat × Instr × Nat) := [(0, .aload_n 0, 1), (1, .iconst 0, 1), (2, .putfield 1, 3), (5, .aload_n 0, 1), (6, .iload_n 1, 1), (7, .invokevirtual 314, 3), (10, .ifCond .eq 19, 3), (13, .iload_n 2, 1), (14, .invokestatic 402, 3), (17, .ifCond .eq 12, 3), (20, .iload_n 3, 1), (21, .iconst 0, 1), (22, .iconst 1, 1), (23, .invokestatic 168, 3), (26, .ifCond .ne 5, 3), (29, .iconst (-1), 1), (30, .ireturn, 1), (31, .aload_n 0, 1), (32, .iload_n 2, 1), (33, .invokevirtual 405, 3), (36, .iload_n 3, 1), (37, .ifCond .ne 11, 3), (40, .aload_n 0, 1), (41, .iload_n 1, 1), (42, .invokevirtual 379, 3), (45, .goto 8, 3), (48, .aload_n 0, 1), (49, .iload_n 1, 1), (50, .invokevirtual 382, 3), (53, .ireturn, 1)]
def gC206 : List (Nat × Instr × Nat) := [(0, .aload_n 0, 1), (1, .iconst 0, 1), (2, .putfield 1, 3), (5, .iload_n 1, 1), (6, .invokestatic 402, 3), (9, .ifCond .eq 12, 3), (12, .iload_n 2, 1), (13, .iconst 0, 1), (14, .iconst 2, 1), (15, .invokestatic 168, 3), (18, .ifCond .ne 5, 3), (21, .iconst (-1), 1), (22, .ireturn, 1), (23, .aload_n 0, 1), (24, .iload_n 1, 1), (25, .invokevirtual 405, 3), (28, .iload_n 2, 1), (29, .ifCond .ne 12, 3), (32, .aload_n 0, 1), (33, .getfield 41, 3), (36, .iconst 2, 1), (37, .iaload, 1), (38, .goto 22, 3), (41, .iload_n 2, 1), (42, .iconst 1, 1), (43, .if_icmp .ne 10, 3), (46, .aload_n 0, 1), (47, .getfield 351, 3), (50, .goto 7, 3), (53, .aload_n 0, 1), (54, .getfield 348, 3), (57, .invokestatic 344, 3), (60, .ireturn, 1)]
def gC207 : List (Nat × Instr × Nat) := [(0, .aload_n 0, 1), (1, .iconst 0, 1), (2, .putfield 1, 3), (5, .aload_n 0, 1), (6, .iload_n 1, 1), (7, .invokevirtual 314, 3), (10, .ifCond .eq 19, 3), (13, .iload_n 2, 1), (14, .invokestatic 402, 3), (17, .ifCond .eq 12, 3), (20, .iload_n 3, 1), (21, .iconst 0, 1), (22, .iconst 1, 1), (23, .invokestatic 168, 3), (26, .ifCond .ne 5, 3), (29, .iconst (-1), 1), (30, .ireturn, 1), (31, .bipush 86, 2), (33, .bipush 42, 2), (35, .iconst 2, 1), (36, .aload_n 0, 1), (37, .getfield 41, 3), (40, .bipush 6, 2), (42, .iload_n 1, 1), (43, .iadd, 1), (44, .iaload, 1), (45, .iconst 1, 1), (46, .isub, 1), (47, .imul, 1), (48, .iload_n 3, 1), (49, .iadd, 1), (50, .imul, 1), (51, .iadd, 1), (52, .istore 4, 2), (54, .aload_n 0, 1), (55, .getfield 41, 3), (58, .iload 4, 2), (60, .iaload, 1), (61, .ifCond .ne 5, 3), (64, .iconst (-1), 1), (65, .ireturn, 1), (66, .aload_n 0, 1), (67, .iload_n 2, 1), (68, .invokevirtual 405, 3), (71, .aload_n 0, 1), (72, .iload 4, 2), (74, .iload_n 1, 1), (75, .aload_n 0, 1), (76, .getfield 351, 3), (79, .aload_n 0, 1), (80, .getfield 348, 3), (83, .aload_n 0, 1), (84, .iload_n 1, 1), (85, .invokevirtual 379, 3), (88, .aload_n 0, 1), (89, .iload_n 1, 1), (90, .invokevirtual 382, 3), (93, .invokevirtual 360, 3), (96, .ifCond .eq 7, 3), (99, .iconst 1, 1), (100, .goto 4, 3), (103, .iconst 0, 1), (104, .ireturn, 1)]
def gC208 : List (Nat × Instr × Nat) := [(0, .aload_n 0, 1), (1, .iconst 0, 1), (2, .putfield 1, 3), (5, .aload_n 0, 1), (6, .iload_n 1, 1), (7, .invokevirtual 314, 3), (10, .ifCond .ne 5, 3), (13, .iconst (-1), 1), (14, .ireturn, 1), (15, .aload_n 0, 1), (16, .sipush 600, 3), (19, .invokevirtual 405, 3), (22, .iconst 0, 1), (23, .istore_n 2, 1), (24, .iload_n 2, 1), (25, .sipush 600, 3), (28, .if_icmp .gt 24, 3), (31, .aload_n 0, 1), (32, .getfield 72, 3), (35, .iload_n 2, 1), (36, .laload, 1), (37, .iload_n 1, 1), (38, .invokestatic 324, 3), (41, .ifCond .eq 5, 3), (44, .iload_n 2, 1), (45, .ireturn, 1), (46, .iinc 2 1, 3), (49, .goto (-25), 3), (52, .iconst (-1), 1), (53, .ireturn, 1)]
def gC209 : List (Nat × Instr × Nat) := [(0, .aload_n 0, 1), (1, .iconst 0, 1), (2, .putfield 1, 3), (5, .iload_n 1, 1), (6, .invokestatic 402, 3), (9, .ifCond .ne 5, 3), (12, .iconst (-1), 1), (13, .ireturn, 1), (14, .aload_n 0, 1), (15, .iload_n 1, 1), (16, .invokevirtual 405, 3), (19, .aload_n 0, 1), (20, .getfield 348, 3), (23, .lstore_n 2, 1), (24, .aload_n 0, 1), (25, .lconst 0, 1), (26, .aload_n 0, 1), (27, .getfield 302, 3), (30, .invokevirtual 389, 3), (33, .aload_n 0, 1), (34, .getfield 373, 3), (37, .iload_n 1, 1), (38, .if_icmp .gt 10, 3), (41, .aload_n 0, 1), (42, .invokevirtual 393, 3), (45, .goto (-12), 3), (48, .lload_n 2, 1), (49, .aload_n 0, 1), (50, .getfield 348, 3), (53, .land, 1), (54, .invokestatic 344, 3), (57, .ireturn, 1)]
def gC210 : List (Nat × Instr × Nat) := [(0, .aload_n 0, 1), (1, .getfield 72, 3), (4, .iload_n 1, 1), (5, .laload, 1), (6, .invokestatic 344, 3), (9, .aload_n 0, 1), (10, .getfield 41, 3), (13, .iconst 3, 1), (14, .iaload, 1), (15, .if_icmp .lt 7, 3), (18, .iconst 1, 1), (19, .goto 4, 3), (22, .iconst 0, 1), (23, .ireturn, 1)]
def gC211 : List (Nat × Instr × Nat) := [(0, .aload_n 0, 1), (1, .iconst 0, 1), (2, .putfield 1, 3), (5, .aload_n 0, 1), (6, .sipush 600, 3), (9, .invokevirtual 405, 3), (12, .iconst 0, 1), (13, .istore_n 1, 1), (14, .iload_n 1, 1), (15, .sipush 600, 3), (18, .if_icmp .gt 19, 3), (21, .aload_n 0, 1), (22, .iload_n 1, 1), (23, .invokevirtual 408, 3), (26, .ifCond .eq 5, 3), (29, .iload_n 1, 1), (30, .ireturn, 1), (31, .iinc 1 1, 3), (34, .goto (-20), 3), (37, .iconst (-1), 1), (38, .ireturn, 1)]
def gC212 : List (Nat × Instr × Nat) := [(0, .aload_n 0, 1), (1, .iconst 0, 1), (2, .putfield 1, 3), (5, .iload_n 1, 1), (6, .invokestatic 402, 3), (9, .ifCond .ne 5, 3), (12, .iconst (-1), 1), (13, .ireturn, 1), (14, .aload_n 0, 1), (15, .iload_n 1, 1), (16, .invokevirtual 405, 3), (19, .iconst 0, 1), (20, .istore_n 2, 1), (21, .iconst 0, 1), (22, .istore_n 3, 1), (23, .iload_n 3, 1), (24, .iload_n 1, 1), (25, .if_icmp .gt 39, 3), (28, .iload_n 2, 1), (29, .aload_n 0, 1), (30, .iload_n 3, 1), (31, .invokevirtual 408, 3), (34, .ifCond .eq 21, 3), (37, .iload_n 3, 1), (38, .ifCond .eq 13, 3), (41, .aload_n 0, 1), (42, .iload_n 3, 1), (43, .iconst 1, 1), (44, .isub, 1), (45, .invokevirtual 408, 3), (48, .ifCond .ne 7, 3), (51, .iconst 1, 1), (52, .goto 4, 3), (55, .iconst 0, 1), (56, .iadd, 1), (57, .istore_n 2, 1), (58, .iinc 3 1, 3), (61, .goto (-38), 3), (64, .iload_n 2, 1), (65, .ireturn, 1)]
def gC213 : List (Nat × Instr × Nat) := [(0, .aload_n 0, 1), (1, .getfield 69, 3), (4, .iload_n 1, 1), (5, .laload, 1), (6, .aload_n 0, 1), (7, .getfield 69, 3), (10, .iload_n 2, 1), (11, .laload, 1), (12, .lcmp, 1), (13, .ifCond .ne 55, 3), (16, .aload_n 0, 1), (17, .getfield 72, 3), (20, .iload_n 1, 1), (21, .laload, 1), (22, .aload_n 0, 1), (23, .getfield 72, 3), (26, .iload_n 2, 1), (27, .laload, 1), (28, .lcmp, 1), (29, .ifCond .ne 39, 3), (32, .aload_n 0, 1), (33, .getfield 75, 3), (36, .iload_n 1, 1), (37, .laload, 1), (38, .aload_n 0, 1), (39, .getfield 75, 3), (42, .iload_n 2, 1), (43, .laload, 1), (44, .lcmp, 1), (45, .ifCond .ne 23, 3), (48, .aload_n 0, 1), (49, .getfield 78, 3), (52, .iload_n 1, 1), (53, .laload, 1), (54, .aload_n 0, 1), (55, .getfield 78, 3), (58, .iload_n 2, 1), (59, .laload, 1), (60, .lcmp, 1), (61, .ifCond .ne 7, 3), (64, .iconst 1, 1), (65, .goto 4, 3), (68, .iconst 0, 1), (69, .ireturn, 1)]
def gC214 : List (Nat × Instr × Nat) := [(0, .aload_n 0, 1), (1, .iconst 0, 1), (2, .putfield 1, 3), (5, .iload_n 1, 1), (6, .iconst 0, 1), (7, .iconst 1, 1), (8, .invokestatic 168, 3), (11, .ifCond .ne 5, 3), (14, .iconst (-1), 1), (15, .ireturn, 1), (16, .aload_n 0, 1), (17, .sipush 600, 3), (20, .invokevirtual 405, 3), (23, .iconst 0, 1), (24, .istore_n 2, 1), (25, .aload_n 0, 1), (26, .getfield 299, 3), (29, .lconst 0, 1), (30, .lcmp, 1), (31, .ifCond .eq 7, 3), (34, .iconst 1, 1), (35, .goto 4, 3), (38, .iconst 0, 1), (39, .istore_n 3, 1), (40, .iconst 0, 1), (41, .istore 4, 2), (43, .iload 4, 2), (45, .aload_n 0, 1), (46, .getfield 41, 3), (49, .iconst 0, 1), (50, .iaload, 1), (51, .if_icmp .ge 42, 3), (54, .aload_n 0, 1), (55, .getfield 41, 3), (58, .bipush 78, 2), (60, .iload 4, 2), (62, .iadd, 1), (63, .iaload, 1), (64, .iconst 1, 1), (65, .isub, 1), (66, .iload_n 2, 1), (67, .if_icmp .le 18, 3), (70, .aload_n 0, 1), (71, .getfield 41, 3), (74, .bipush 78, 2), (76, .iload 4, 2), (78, .iadd, 1), (79, .iaload, 1), (80, .iconst 1, 1), (81, .isub, 1), (82, .goto 4, 3), (85, .iload_n 2, 1), (86, .istore_n 2, 1), (87, .iinc 4 1, 3), (90, .goto (-47), 3), (93, .iconst 0, 1), (94, .istore 4, 2), (96, .iload 4, 2), (98, .aload_n 0, 1), (99, .getfield 41, 3), (102, .sipush 590, 3), (105, .iaload, 1), (106, .if_icmp .ge 72, 3), (109, .aload_n 0, 1), (110, .getfield 41, 3), (113, .sipush 591, 3), (116, .iconst 3, 1), (117, .iload 4, 2), (119, .imul, 1), (120, .iadd, 1), (121, .iaload, 1), (122, .iload_n 2, 1), (123, .if_icmp .le 19, 3), (126, .aload_n 0, 1), (127, .getfield 41, 3), (130, .sipush 591, 3), (133, .iconst 3, 1), (134, .iload 4, 2), (136, .imul, 1), (137, .iadd, 1), (138, .iaload, 1), (139, .goto 4, 3), (142, .iload_n 2, 1), (143, .istore_n 2, 1), (144, .iload_n 3, 1), (145, .ifCond .ne 21, 3), (148, .aload_n 0, 1), (149, .getfield 41, 3), (152, .sipush 591, 3), (155, .iconst 3, 1), (156, .iload 4, 2), (158, .imul, 1), (159, .iadd, 1), (160, .iconst 1, 1), (161, .iadd, 1), (162, .iaload, 1), (163, .ifCond .ne 7, 3), (166, .iconst 1, 1), (167, .goto 4, 3), (170, .iconst 0, 1), (171, .istore_n 3, 1), (172, .iinc 4 1, 3), (175, .goto (-79), 3), (178, .iload_n 3, 1), (179, .ifCond .eq 36, 3), (182, .aload_n 0, 1), (183, .getfield 41, 3), (186, .iconst 4, 1), (187, .iaload, 1), (188, .sipush 600, 3), (191, .if_icmp .ge 24, 3), (194, .aload_n 0, 1), (195, .getfield 41, 3), (198, .iconst 4, 1), (199, .iaload, 1), (200, .iconst 1, 1), (201, .iadd, 1), (202, .iload_n 2, 1), (203, .if_icmp .le 12, 3), (206, .aload_n 0, 1), (207, .getfield 41, 3), (210, .iconst 4, 1), (211, .iaload, 1), (212, .iconst 1, 1), (213, .iadd, 1), (214, .istore_n 2, 1), (215, .iload_n 2, 1), (216, .istore 4, 2), (218, .iload 4, 2), (220, .sipush 600, 3), (223, .if_icmp .gt 55, 3), (226, .iload 4, 2), (228, .iconst 1, 1), (229, .iadd, 1), (230, .istore 5, 2), (232, .iload 5, 2), (234, .sipush 600, 3), (237, .if_icmp .gt 35, 3), (240, .aload_n 0, 1), (241, .iload 4, 2), (243, .iload 5, 2), (245, .invokevirtual 411, 3), (248, .ifCond .eq 18, 3), (251, .iload_n 1, 1), (252, .ifCond .ne 8, 3), (255, .iload 4, 2), (257, .goto 8, 3), (260, .iload 5, 2), (262, .iload 4, 2), (264, .isub, 1), (265, .ireturn, 1), (266, .iinc 5 1, 3), (269, .goto (-37), 3), (272, .iinc 4 1, 3), (275, .goto (-57), 3), (278, .iconst (-1), 1), (279, .ireturn, 1)]
def gC215 : List (Nat × Instr × Nat) := [(0, .aload_n 0, 1), (1, .iconst 0, 1), (2, .putfield 1, 3), (5, .iload_n 1, 1), (6, .iconst 0, 1), (7, .iconst 1, 1), (8, .invokestatic 168, 3), (11, .ifCond .ne 5, 3), (14, .iconst (-1), 1), (15, .ireturn, 1), (16, .aload_n 0, 1), (17, .aload_n 0, 1), (18, .getfield 299, 3), (21, .aload_n 0, 1), (22, .getfield 302, 3), (25, .invokevirtual 414, 3), (28, .pop, 1), (29, .iload_n 1, 1), (30, .iconst 1, 1), (31, .if_icmp .ne 10, 3), (34, .aload_n 0, 1), (35, .getfield 396, 3), (38, .goto 15, 3), (41, .aload_n 0, 1), (42, .getfield 399, 3), (45, .ifCond .eq 7, 3), (48, .iconst 1, 1), (49, .goto 4, 3), (52, .iconst 0, 1), (53, .ireturn, 1)]
def gC216 : List (Nat × Instr × Nat) := [(0, .aload_n 0, 1), (1, .iconst 0, 1), (2, .putfield 418, 3), (5, .iload_n 2, 1), (6, .iload_n 1, 1), (7, .isub, 1), (8, .bipush 14, 2), (10, .if_icmp .le 5, 3), (13, .iconst 0, 1), (14, .ireturn, 1), (15, .iload_n 1, 1), (16, .istore_n 3, 1), (17, .iload_n 3, 1), (18, .iload_n 2, 1), (19, .if_icmp .ge 80, 3), (22, .aload_n 0, 1), (23, .iload_n 3, 1), (24, .invokevirtual 225, 3), (27, .istore 4, 2), (29, .aload_n 0, 1), (30, .iload 4, 2), (32, .invokevirtual 314, 3), (35, .ifCond .ne 5, 3), (38, .iconst 0, 1), (39, .ireturn, 1), (40, .iconst 0, 1), (41, .istore 5, 2), (43, .iload 5, 2), (45, .aload_n 0, 1), (46, .getfield 418, 3), (49, .if_icmp .ge 23, 3), (52, .aload_n 0, 1), (53, .getfield 81, 3), (56, .iload 5, 2), (58, .iaload, 1), (59, .iload 4, 2), (61, .if_icmp .ne 5, 3), (64, .iconst 0, 1), (65, .ireturn, 1), (66, .iinc 5 1, 3), (69, .goto (-26), 3), (72, .aload_n 0, 1), (73, .getfield 81, 3), (76, .aload_n 0, 1), (77, .getfield 418, 3), (80, .iload 4, 2), (82, .iastore, 1), (83, .aload_n 0, 1), (84, .dup, 1), (85, .getfield 418, 3), (88, .iconst 1, 1), (89, .iadd, 1), (90, .putfield 418, 3), (93, .iinc 3 1, 3), (96, .goto (-79), 3), (99, .iconst 1, 1), (100, .ireturn, 1)]
def gC217 : List (Nat × Instr × Nat) := [(0, .aload_n 0, 1), (1, .sipush 940, 3), (4, .invokevirtual 287, 3), (7, .aload_n 0, 1), (8, .getfield 18, 3), (11, .iconst 1, 1), (12, .bipush 8, 2), (14, .invokestatic 168, 3), (17, .ifCond .eq 19, 3), (20, .aload_n 0, 1), (21, .iconst 0, 1), (22, .aload_n 0, 1), (23, .getfield 18, 3), (26, .invokevirtual 421, 3), (29, .ifCond .eq 7, 3), (32, .iconst 1, 1), (33, .goto 4, 3), (36, .iconst 0, 1), (37, .ireturn, 1)]
def gC218 : List (Nat × Instr × Nat) := [(0, .lconst 0, 1), (1, .lstore_n 2, 1), (2, .iconst 0, 1), (3, .istore 4, 2), (5, .iload 4, 2), (7, .aload_n 0, 1), (8, .getfield 418, 3), (11, .if_icmp .ge 34, 3), (14, .lload_n 2, 1), (15, .iload_n 1, 1), (16, .iload 4, 2), (18, .invokestatic 222, 3), (21, .ifCond .eq 15, 3), (24, .lconst 1, 1), (25, .aload_n 0, 1), (26, .getfield 81, 3), (29, .iload 4, 2), (31, .iaload, 1), (32, .lshl, 1), (33, .goto 4, 3), (36, .lconst 0, 1), (37, .lor, 1), (38, .lstore_n 2, 1), (39, .iinc 4 1, 3), (42, .goto (-37), 3), (45, .lload_n 2, 1), (46, .lreturn, 1)]
def gC219 : List (Nat × Instr × Nat) := [(0, .aload_n 0, 1), (1, .iconst 0, 1), (2, .putfield 1, 3), (5, .aload_n 0, 1), (6, .invokevirtual 424, 3), (9, .ifCond .ne 6, 3), (12, .bipush (-2), 2), (14, .ireturn, 1), (15, .iconst (-1), 1), (16, .istore_n 1, 1), (17, .ldc_w 427, 3), (20, .istore_n 2, 1), (21, .iconst 0, 1), (22, .istore_n 3, 1), (23, .iload_n 3, 1), (24, .iconst 1, 1), (25, .aload_n 0, 1), (26, .getfield 418, 3), (29, .ishl, 1), (30, .if_icmp .ge 121, 3), (33, .iconst 0, 1), (34, .istore 4, 2), (36, .iconst 0, 1), (37, .istore 5, 2), (39, .iload 5, 2), (41, .aload_n 0, 1), (42, .getfield 418, 3), (45, .if_icmp .ge 38, 3), (48, .iload 4, 2), (50, .iload_n 3, 1), (51, .iload 5, 2), (53, .invokestatic 222, 3), (56, .ifCond .eq 17, 3), (59, .aload_n 0, 1), (60, .aload_n 0, 1), (61, .getfield 81, 3), (64, .iload 5, 2), (66, .iaload, 1), (67, .invokevirtual 321, 3), (70, .goto 4, 3), (73, .iconst 0, 1), (74, .iadd, 1), (75, .istore 4, 2), (77, .iinc 5 1, 3), (80, .goto (-41), 3), (83, .iload 4, 2), (85, .iload_n 2, 1), (86, .if_icmp .gt 59, 3), (89, .iload 4, 2), (91, .iload_n 2, 1), (92, .if_icmp .ne 19, 3), (95, .iload_n 3, 1), (96, .i2l, 1), (97, .invokestatic 344, 3), (100, .iload_n 1, 1), (101, .i2l, 1), (102, .invokestatic 344, 3), (105, .if_icmp .lt 6, 3), (108, .goto 37, 3), (111, .aload_n 0, 1), (112, .aload_n 0, 1), (113, .getfield 299, 3), (116, .aload_n 0, 1), (117, .iload_n 3, 1), (118, .invokevirtual 428, 3), (121, .lor, 1), (122, .aload_n 0, 1), (123, .getfield 302, 3), (126, .invokevirtual 414, 3), (129, .pop, 1), (130, .aload_n 0, 1), (131, .getfield 399, 3), (134, .ifCond .ne 6, 3), (137, .goto 8, 3), (140, .iload_n 3, 1), (141, .istore_n 1, 1), (142, .iload 4, 2), (144, .istore_n 2, 1), (145, .iinc 3 1, 3), (148, .goto (-125), 3), (151, .iload_n 1, 1), (152, .ifCond .ge 5, 3), (155, .iconst (-1), 1), (156, .ireturn, 1), (157, .aload_n 0, 1), (158, .iload_n 1, 1), (159, .putfield 84, 3), (162, .iload_n 2, 1), (163, .ireturn, 1)]
def gC220 : List (Nat × Instr × Nat) := [(0, .aload_n 0, 1), (1, .iconst 0, 1), (2, .putfield 1, 3), (5, .aload_n 0, 1), (6, .getfield 84, 3), (9, .ireturn, 1)]
def gC221 : List (Nat × Instr × Nat) := [(0, .aload_n 0, 1), (1, .iconst 0, 1), (2, .putfield 1, 3), (5, .aload_n 0, 1), (6, .invokevirtual 424, 3), (9, .ifCond .ne 6, 3), (12, .bipush (-2), 2), (14, .ireturn, 1), (15, .iconst (-1), 1), (16, .istore_n 1, 1), (17, .iconst 0, 1), (18, .istore_n 2, 1), (19, .iload_n 2, 1), (20, .iconst 1, 1), (21, .aload_n 0, 1), (22, .getfield 418, 3), (25, .ishl, 1), (26, .if_icmp .ge 57, 3), (29, .iload_n 1, 1), (30, .ifCond .lt 19, 3), (33, .iload_n 2, 1), (34, .i2l, 1), (35, .invokestatic 344, 3), (38, .iload_n 1, 1), (39, .i2l, 1), (40, .invokestatic 344, 3), (43, .if_icmp .lt 6, 3), (46, .goto 31, 3), (49, .aload_n 0, 1), (50, .aload_n 0, 1), (51, .getfield 299, 3), (54, .aload_n 0, 1), (55, .getfield 302, 3), (58, .aload_n 0, 1), (59, .iload_n 2, 1), (60, .invokevirtual 428, 3), (63, .lor, 1), (64, .invokevirtual 414, 3), (67, .pop, 1), (68, .aload_n 0, 1), (69, .getfield 399, 3), (72, .ifCond .ne 5, 3), (75, .iload_n 2, 1), (76, .istore_n 1, 1), (77, .iinc 2 1, 3), (80, .goto (-61), 3), (83, .iload_n 1, 1), (84, .ireturn, 1)]
def gC222 : List (Nat × Instr × Nat) := [(0, .aload_n 0, 1), (1, .iconst 0, 1), (2, .putfield 1, 3), (5, .aload_n 0, 1), (6, .invokevirtual 424, 3), (9, .ifCond .ne 6, 3), (12, .bipush (-2), 2), (14, .ireturn, 1), (15, .iload_n 1, 1), (16, .iconst (-1), 1), (17, .if_icmp .ge 5, 3), (20, .iconst (-1), 1), (21, .ireturn, 1), (22, .iconst 0, 1), (23, .istore_n 2, 1), (24, .iconst 0, 1), (25, .istore_n 3, 1), (26, .iload_n 3, 1), (27, .iconst 1, 1), (28, .aload_n 0, 1), (29, .getfield 418, 3), (32, .ishl, 1), (33, .if_icmp .ge 108, 3), (36, .aload_n 0, 1), (37, .aload_n 0, 1), (38, .getfield 299, 3), (41, .aload_n 0, 1), (42, .iload_n 3, 1), (43, .invokevirtual 428, 3), (46, .lor, 1), (47, .aload_n 0, 1), (48, .getfield 302, 3), (51, .invokevirtual 414, 3), (54, .pop, 1), (55, .aload_n 0, 1), (56, .getfield 87, 3), (59, .iload_n 3, 1), (60, .aload_n 0, 1), (61, .getfield 399, 3), (64, .bastore, 1), (65, .aload_n 0, 1), (66, .getfield 399, 3), (69, .istore 4, 2), (71, .iconst 0, 1), (72, .istore 5, 2), (74, .iload 5, 2), (76, .iload_n 3, 1), (77, .if_icmp .ge 40, 3), (80, .iload 4, 2), (82, .ifCond .eq 35, 3), (85, .iload 5, 2), (87, .iload_n 3, 1), (88, .iand, 1), (89, .iload 5, 2), (91, .if_icmp .ne 13, 3), (94, .aload_n 0, 1), (95, .getfield 87, 3), (98, .iload 5, 2), (100, .baload, 1), (101, .ifCond .ne 7, 3), (104, .iconst 1, 1), (105, .goto 4, 3), (108, .iconst 0, 1), (109, .istore 4, 2), (111, .iinc 5 1, 3), (114, .goto (-40), 3), (117, .iload 4, 2), (119, .ifCond .ne 6, 3), (122, .goto 13, 3), (125, .iload_n 2, 1), (126, .iload_n 1, 1), (127, .if_icmp .ne 5, 3), (130, .iload_n 3, 1), (131, .ireturn, 1), (132, .iinc 2 1, 3), (135, .iinc 3 1, 3), (138, .goto (-112), 3), (141, .iload_n 1, 1), (142, .iconst (-1), 1), (143, .if_icmp .ne 7, 3), (146, .iload_n 2, 1), (147, .goto 4, 3), (150, .iconst (-1), 1), (151, .ireturn, 1)]
def gC223 : List (Nat × Instr × Nat) := [(0, .lconst 1, 1), (1, .lstore_n 1, 1), (2, .iconst 2, 1), (3, .istore_n 3, 1), (4, .iload_n 3, 1), (5, .iload_n 0, 1), (6, .if_icmp .gt 14, 3), (9, .lload_n 1, 1), (10, .iload_n 3, 1), (11, .i2l, 1), (12, .lmul, 1), (13, .lstore_n 1, 1), (14, .iinc 3 1, 3), (17, .goto (-13), 3), (20, .lload_n 1, 1), (21, .lreturn, 1)]
def gC224 : List (Nat × Instr × Nat) := [(0, .aload_n 0, 1), (1, .iconst 0, 1), (2, .putfield 1, 3), (5, .aload_n 0, 1), (6, .invokevirtual 424, 3), (9, .ifCond .ne 5, 3), (12, .iconst (-1), 1), (13, .ireturn, 1), (14, .iconst 0, 1), (15, .istore_n 1, 1), (16, .iload_n 1, 1), (17, .iconst 1, 1), (18, .aload_n 0, 1), (19, .getfield 418, 3), (22, .ishl, 1), (23, .if_icmp .ge 28, 3), (26, .aload_n 0, 1), (27, .getfield 90, 3), (30, .iload_n 1, 1), (31, .aload_n 0, 1), (32, .aload_n 0, 1), (33, .iload_n 1, 1), (34, .invokevirtual 428, 3), (37, .aload_n 0, 1), (38, .getfield 302, 3), (41, .invokevirtual 414, 3), (44, .iastore, 1), (45, .iinc 1 1, 3), (48, .goto (-32), 3), (51, .iconst 0, 1), (52, .istore_n 1, 1), (53, .iload_n 1, 1), (54, .aload_n 0, 1), (55, .getfield 418, 3), (58, .if_icmp .ge 95, 3), (61, .aload_n 0, 1), (62, .getfield 93, 3), (65, .iload_n 1, 1), (66, .lconst 0, 1), (67, .lastore, 1), (68, .iconst 0, 1), (69, .istore_n 2, 1), (70, .iload_n 2, 1), (71, .iconst 1, 1), (72, .aload_n 0, 1), (73, .getfield 418, 3), (76, .ishl, 1), (77, .if_icmp .ge 70, 3), (80, .iload_n 2, 1), (81, .iload_n 1, 1), (82, .invokestatic 222, 3), (85, .ifCond .eq 6, 3), (88, .goto 53, 3), (91, .iload_n 2, 1), (92, .i2l, 1), (93, .invokestatic 344, 3), (96, .istore_n 3, 1), (97, .aload_n 0, 1), (98, .getfield 93, 3), (101, .iload_n 1, 1), (102, .dup2, 1), (103, .laload, 1), (104, .iload_n 3, 1), (105, .invokestatic 432, 3), (108, .aload_n 0, 1), (109, .getfield 418, 3), (112, .iconst 1, 1), (113, .isub, 1), (114, .iload_n 3, 1), (115, .isub, 1), (116, .invokestatic 432, 3), (119, .lmul, 1), (120, .aload_n 0, 1), (121, .getfield 90, 3), (124, .iload_n 2, 1), (125, .iconst 1, 1), (126, .iload_n 1, 1), (127, .ishl, 1), (128, .ior, 1), (129, .iaload, 1), (130, .aload_n 0, 1), (131, .getfield 90, 3), (134, .iload_n 2, 1), (135, .iaload, 1), (136, .isub, 1), (137, .i2l, 1), (138, .lmul, 1), (139, .ladd, 1), (140, .lastore, 1), (141, .iinc 2 1, 3), (144, .goto (-74), 3), (147, .iinc 1 1, 3), (150, .goto (-97), 3), (153, .aload_n 0, 1), (154, .aload_n 0, 1), (155, .getfield 418, 3), (158, .putfield 435, 3), (161, .aload_n 0, 1), (162, .aload_n 0, 1), (163, .getfield 418, 3), (166, .invokestatic 432, 3), (169, .putfield 438, 3), (172, .aload_n 0, 1), (173, .getfield 90, 3), (176, .iconst 1, 1), (177, .aload_n 0, 1), (178, .getfield 418, 3), (181, .ishl, 1), (182, .iconst 1, 1), (183, .isub, 1), (184, .iaload, 1), (185, .ireturn, 1)]
def gC225 : List (Nat × Instr × Nat) := [(0, .aload_n 0, 1), (1, .iload_n 1, 1), (2, .iconst 0, 1), (3, .aload_n 0, 1), (4, .getfield 435, 3), (7, .iconst 1, 1), (8, .isub, 1), (9, .invokestatic 168, 3), (12, .ifCond .eq 12, 3), (15, .iload_n 2, 1), (16, .iconst 0, 1), (17, .iconst 1, 1), (18, .invokestatic 168, 3), (21, .ifCond .ne 7, 3), (24, .iconst 1, 1), (25, .goto 4, 3), (28, .iconst 0, 1), (29, .invokevirtual 317, 3), (32, .ifCond .eq 5, 3), (35, .iconst 0, 1), (36, .ireturn, 1), (37, .aload_n 0, 1), (38, .getfield 93, 3), (41, .iload_n 1, 1), (42, .laload, 1), (43, .lconst 0, 1), (44, .lcmp, 1), (45, .ifCond .ge 13, 3), (48, .aload_n 0, 1), (49, .getfield 93, 3), (52, .iload_n 1, 1), (53, .laload, 1), (54, .lneg, 1), (55, .goto 9, 3), (58, .aload_n 0, 1), (59, .getfield 93, 3), (62, .iload_n 1, 1), (63, .laload, 1), (64, .lstore_n 3, 1), (65, .aload_n 0, 1), (66, .getfield 438, 3), (69, .lstore 5, 2), (71, .lload_n 3, 1), (72, .lconst 0, 1), (73, .lcmp, 1), (74, .ifCond .eq 18, 3), (77, .lload 5, 2), (79, .lload_n 3, 1), (80, .lrem, 1), (81, .lstore 7, 2), (83, .lload_n 3, 1), (84, .lstore 5, 2), (86, .lload 7, 2), (88, .lstore_n 3, 1), (89, .goto (-18), 3), (92, .iload_n 2, 1), (93, .ifCond .ne 12, 3), (96, .aload_n 0, 1), (97, .getfield 93, 3), (100, .iload_n 1, 1), (101, .laload, 1), (102, .goto 7, 3), (105, .aload_n 0, 1), (106, .getfield 438, 3), (109, .lload 5, 2), (111, .ldiv, 1), (112, .l2i, 1), (113, .ireturn, 1)]
def gC226 : List (Nat × Instr × Nat) := [(0, .aload_n 0, 1), (1, .iconst 0, 1), (2, .putfield 1, 3), (5, .aload_n 0, 1), (6, .sipush 940, 3), (9, .invokevirtual 287, 3), (12, .aload_n 0, 1), (13, .getfield 18, 3), (16, .ifCond .ne 7, 3), (19, .iconst 0, 1), (20, .goto 8, 3), (23, .aload_n 0, 1), (24, .iconst 0, 1), (25, .invokevirtual 225, 3), (28, .istore_n 1, 1), (29, .iload_n 1, 1), (30, .iconst 1, 1), (31, .bipush 6, 2), (33, .invokestatic 168, 3), (36, .ifCond .eq 32, 3), (39, .aload_n 0, 1), (40, .getfield 18, 3), (43, .iconst 1, 1), (44, .isub, 1), (45, .iload_n 1, 1), (46, .isub, 1), (47, .iconst 1, 1), (48, .bipush 6, 2), (50, .invokestatic 168, 3), (53, .ifCond .eq 15, 3), (56, .aload_n 0, 1), (57, .iconst 1, 1), (58, .aload_n 0, 1), (59, .getfield 18, 3), (62, .invokevirtual 421, 3), (65, .ifCond .ne 5, 3), (68, .iconst (-1), 1), (69, .ireturn, 1), (70, .aload_n 0, 1), (71, .getfield 418, 3), (74, .iload_n 1, 1), (75, .isub, 1), (76, .istore_n 2, 1), (77, .iconst (-1), 1), (78, .istore_n 3, 1), (79, .ldc_w 427, 3), (82, .istore 4, 2), (84, .iconst 0, 1), (85, .istore 5, 2), (87, .iload 5, 2), (89, .iload_n 1, 1), (90, .if_icmp .ge 121, 3), (93, .ldc_w 427, 3), (96, .istore 6, 2), (98, .iconst 0, 1), (99, .istore 7, 2), (101, .iload 7, 2), (103, .iload_n 2, 1), (104, .if_icmp .ge 76, 3), (107, .aload_n 0, 1), (108, .aload_n 0, 1), (109, .getfield 299, 3), (112, .lconst 1, 1), (113, .aload_n 0, 1), (114, .getfield 81, 3), (117, .iload 5, 2), (119, .iaload, 1), (120, .lshl, 1), (121, .lor, 1), (122, .aload_n 0, 1), (123, .getfield 302, 3), (126, .lconst 1, 1), (127, .aload_n 0, 1), (128, .getfield 81, 3), (131, .iload_n 1, 1), (132, .iload 7, 2), (134, .iadd, 1), (135, .iaload, 1), (136, .lshl, 1), (137, .lor, 1), (138, .invokevirtual 414, 3), (141, .istore 8, 2), (143, .aload_n 0, 1), (144, .getfield 90, 3), (147, .bipush 6, 2), (149, .iload 5, 2), (151, .imul, 1), (152, .iload 7, 2), (154, .iadd, 1), (155, .iload 8, 2), (157, .iastore, 1), (158, .iload 8, 2), (160, .iload 6, 2), (162, .if_icmp .ge 8, 3), (165, .iload 8, 2), (167, .goto 5, 3), (170, .iload 6, 2), (172, .istore 6, 2), (174, .iinc 7 1, 3), (177, .goto (-76), 3), (180, .iload 6, 2), (182, .iload_n 3, 1), (183, .if_icmp .gt 6, 3), (186, .goto 19, 3), (189, .iload 6, 2), (191, .istore_n 3, 1), (192, .aload_n 0, 1), (193, .getfield 96, 3), (196, .iconst 1, 1), (197, .aload_n 0, 1), (198, .getfield 81, 3), (201, .iload 5, 2), (203, .iaload, 1), (204, .iastore, 1), (205, .iinc 5 1, 3), (208, .goto (-121), 3), (211, .iconst 0, 1), (212, .istore 5, 2), (214, .iload 5, 2), (216, .iload_n 2, 1), (217, .if_icmp .ge 94, 3), (220, .iconst 0, 1), (221, .istore 6, 2), (223, .iconst 0, 1), (224, .istore 7, 2), (226, .iload 7, 2), (228, .iload_n 1, 1), (229, .if_icmp .ge 47, 3), (232, .aload_n 0, 1), (233, .getfield 90, 3), (236, .bipush 6, 2), (238, .iload 7, 2), (240, .imul, 1), (241, .iload 5, 2), (243, .iadd, 1), (244, .iaload, 1), (245, .iload 6, 2), (247, .if_icmp .le 19, 3), (250, .aload_n 0, 1), (251, .getfield 90, 3), (254, .bipush 6, 2), (256, .iload 7, 2), (258, .imul, 1), (259, .iload 5, 2), (261, .iadd, 1), (262, .iaload, 1), (263, .goto 5, 3), (266, .iload 6, 2), (268, .istore 6, 2), (270, .iinc 7 1, 3), (273, .goto (-47), 3), (276, .iload 6, 2), (278, .iload 4, 2), (280, .if_icmp .lt 6, 3), (283, .goto 22, 3), (286, .iload 6, 2), (288, .istore 4, 2), (290, .aload_n 0, 1), (291, .getfield 96, 3), (294, .iconst 2, 1), (295, .aload_n 0, 1), (296, .getfield 81, 3), (299, .iload_n 1, 1), (300, .iload 5, 2), (302, .iadd, 1), (303, .iaload, 1), (304, .iastore, 1), (305, .iinc 5 1, 3), (308, .goto (-94), 3), (311, .aload_n 0, 1), (312, .getfield 96, 3), (315, .iconst 0, 1), (316, .iload 4, 2), (318, .iastore, 1), (319, .aload_n 0, 1), (320, .iconst 1, 1), (321, .putfield 441, 3), (324, .iload_n 3, 1), (325, .ireturn, 1)]
def gC227 : List (Nat × Instr × Nat) := [(0, .aload_n 0, 1), (1, .iconst 0, 1), (2, .putfield 1, 3), (5, .aload_n 0, 1), (6, .getfield 441, 3), (9, .ifCond .eq 21, 3), (12, .iload_n 1, 1), (13, .iconst 0, 1), (14, .iconst 2, 1), (15, .invokestatic 168, 3), (18, .ifCond .eq 12, 3), (21, .aload_n 0, 1), (22, .getfield 96, 3), (25, .iload_n 1, 1), (26, .iaload, 1), (27, .goto 4, 3), (30, .iconst (-1), 1), (31, .ireturn, 1)]
def gC228 : List (Nat × Instr × Nat) := [(0, .aload_n 0, 1), (1, .lload_n 1, 1), (2, .aload_n 0, 1), (3, .getfield 302, 3), (6, .invokevirtual 389, 3), (9, .aload_n 0, 1), (10, .getfield 373, 3), (13, .iload_n 3, 1), (14, .if_icmp .gt 10, 3), (17, .aload_n 0, 1), (18, .invokevirtual 393, 3), (21, .goto (-12), 3), (24, .aload_n 0, 1), (25, .getfield 351, 3), (28, .aload_n 0, 1), (29, .getfield 444, 3), (32, .land, 1), (33, .aload_n 0, 1), (34, .getfield 447, 3), (37, .lcmp, 1), (38, .ifCond .ne 24, 3), (41, .aload_n 0, 1), (42, .getfield 348, 3), (45, .aload_n 0, 1), (46, .getfield 444, 3), (49, .land, 1), (50, .aload_n 0, 1), (51, .getfield 450, 3), (54, .lcmp, 1), (55, .ifCond .ne 7, 3), (58, .iconst 1, 1), (59, .goto 4, 3), (62, .iconst 0, 1), (63, .ireturn, 1)]
def gC229 : List (Nat × Instr × Nat) := [(0, .aload_n 0, 1), (1, .iconst 0, 1), (2, .putfield 1, 3), (5, .aload_n 0, 1), (6, .sipush 940, 3), (9, .invokevirtual 287, 3), (12, .aload_n 0, 1), (13, .getfield 41, 3), (16, .iconst 0, 1), (17, .iaload, 1), (18, .aload_n 0, 1), (19, .getfield 41, 3), (22, .iconst 1, 1), (23, .iaload, 1), (24, .imul, 1), (25, .istore_n 2, 1), (26, .aload_n 0, 1), (27, .getfield 18, 3), (30, .iload_n 2, 1), (31, .if_icmp .ne 24, 3), (34, .iload_n 1, 1), (35, .iconst 0, 1), (36, .bipush 60, 2), (38, .invokestatic 168, 3), (41, .ifCond .eq 14, 3), (44, .aload_n 0, 1), (45, .getfield 41, 3), (48, .iconst 2, 1), (49, .iaload, 1), (50, .bipush 24, 2), (52, .if_icmp .le 5, 3), (55, .iconst (-1), 1), (56, .ireturn, 1), (57, .lconst 0, 1), (58, .lstore_n 3, 1), (59, .lconst 0, 1), (60, .lstore 5, 2), (62, .lconst 0, 1), (63, .lstore 7, 2), (65, .iconst 0, 1), (66, .istore 9, 2), (68, .iload 9, 2), (70, .aload_n 0, 1), (71, .getfield 18, 3), (74, .if_icmp .ge 91, 3), (77, .aload_n 0, 1), (78, .iload 9, 2), (80, .invokevirtual 225, 3), (83, .istore 10, 2), (85, .iload 10, 2), (87, .iconst 3, 1), (88, .if_icmp .le 5, 3), (91, .iconst (-1), 1), (92, .ireturn, 1), (93, .iload 10, 2), (95, .iconst 3, 1), (96, .if_icmp .eq 63, 3), (99, .aload_n 0, 1), (100, .getfield 41, 3), (103, .bipush 6, 2), (105, .iload 9, 2), (107, .iadd, 1), (108, .iaload, 1), (109, .ifCond .ne 6, 3), (112, .goto 47, 3), (115, .lload 7, 2), (117, .lconst 1, 1), (118, .iload 9, 2), (120, .lshl, 1), (121, .lor, 1), (122, .lstore 7, 2), (124, .lload_n 3, 1), (125, .iload 10, 2), (127, .ifCond .le 10, 3), (130, .lconst 1, 1), (131, .iload 9, 2), (133, .lshl, 1), (134, .goto 4, 3), (137, .lconst 0, 1), (138, .lor, 1), (139, .lstore_n 3, 1), (140, .lload 5, 2), (142, .iload 10, 2), (144, .iconst 1, 1), (145, .if_icmp .le 10, 3), (148, .lconst 1, 1), (149, .iload 9, 2), (151, .lshl, 1), (152, .goto 4, 3), (155, .lconst 0, 1), (156, .lor, 1), (157, .lstore 5, 2), (159, .iinc 9 1, 3), (162, .goto (-94), 3), (165, .aload_n 0, 1), (166, .lload_n 3, 1), (167, .putfield 447, 3), (170, .aload_n 0, 1), (171, .lload 5, 2), (173, .putfield 450, 3), (176, .aload_n 0, 1), (177, .lload 7, 2), (179, .putfield 444, 3), (182, .aload_n 0, 1), (183, .iconst (-1), 1), (184, .putfield 99, 3), (187, .aload_n 0, 1), (188, .iconst (-1), 1), (189, .putfield 102, 3), (192, .iconst 0, 1), (193, .istore 9, 2), (195, .iconst 0, 1), (196, .istore 10, 2), (198, .iload 10, 2), (200, .iload_n 2, 1), (201, .if_icmp .ge 98, 3), (204, .iload 10, 2), (206, .istore 11, 2), (208, .iload 11, 2), (210, .iload_n 2, 1), (211, .if_icmp .ge 82, 3), (214, .aload_n 0, 1), (215, .iload 10, 2), (217, .invokevirtual 314, 3), (220, .ifCond .eq 67, 3), (223, .aload_n 0, 1), (224, .iload 11, 2), (226, .invokevirtual 314, 3), (229, .ifCond .eq 58, 3), (232, .aload_n 0, 1), (233, .lconst 1, 1), (234, .iload 10, 2), (236, .lshl, 1), (237, .lconst 1, 1), (238, .iload 11, 2), (240, .lshl, 1), (241, .lor, 1), (242, .iload_n 1, 1), (243, .invokevirtual 453, 3), (246, .ifCond .ne 6, 3), (249, .goto 38, 3), (252, .iinc 9 1, 3), (255, .iload 9, 2), (257, .iconst 1, 1), (258, .if_icmp .le 6, 3), (261, .goto 26, 3), (264, .aload_n 0, 1), (265, .iload 10, 2), (267, .putfield 99, 3), (270, .aload_n 0, 1), (271, .iload 10, 2), (273, .iload 11, 2), (275, .if_icmp .ne 7, 3), (278, .iconst (-1), 1), (279, .goto 5, 3), (282, .iload 11, 2), (284, .putfield 102, 3), (287, .iinc 11 1, 3), (290, .goto (-82), 3), (293, .iinc 10 1, 3), (296, .goto (-98), 3), (299, .iload 9, 2), (301, .ireturn, 1)]
def gC230 : List (Nat × Instr × Nat) := [(0, .aload_n 0, 1), (1, .iconst 0, 1), (2, .putfield 1, 3), (5, .iload_n 1, 1), (6, .ifCond .ne 10, 3), (9, .aload_n 0, 1), (10, .getfield 99, 3), (13, .goto 16, 3), (16, .iload_n 1, 1), (17, .iconst 1, 1), (18, .if_icmp .ne 10, 3), (21, .aload_n 0, 1), (22, .getfield 102, 3), (25, .goto 4, 3), (28, .iconst (-1), 1), (29, .ireturn, 1)]
def gC231 : List (Nat × Instr × Nat) := [(0, .aload_n 0, 1), (1, .iconst 0, 1), (2, .putfield 1, 3), (5, .aload_n 0, 1), (6, .iload_n 1, 1), (7, .invokevirtual 314, 3), (10, .ifCond .eq 11, 3), (13, .aload_n 0, 1), (14, .iload_n 2, 1), (15, .invokevirtual 314, 3), (18, .ifCond .ne 5, 3), (21, .iconst (-1), 1), (22, .ireturn, 1), (23, .aload_n 0, 1), (24, .lconst 1, 1), (25, .iload_n 1, 1), (26, .lshl, 1), (27, .aload_n 0, 1), (28, .getfield 302, 3), (31, .invokevirtual 414, 3), (34, .pop, 1), (35, .iconst 0, 1), (36, .istore_n 3, 1), (37, .iload_n 3, 1), (38, .bipush 60, 2), (40, .if_icmp .gt 33, 3), (43, .aload_n 0, 1), (44, .getfield 105, 3), (47, .iload_n 3, 1), (48, .aload_n 0, 1), (49, .getfield 69, 3), (52, .iload_n 3, 1), (53, .laload, 1), (54, .lastore, 1), (55, .aload_n 0, 1), (56, .getfield 108, 3), (59, .iload_n 3, 1), (60, .aload_n 0, 1), (61, .getfield 72, 3), (64, .iload_n 3, 1), (65, .laload, 1), (66, .lastore, 1), (67, .iinc 3 1, 3), (70, .goto (-33), 3), (73, .aload_n 0, 1), (74, .lconst 1, 1), (75, .iload_n 2, 1), (76, .lshl, 1), (77, .aload_n 0, 1), (78, .getfield 302, 3), (81, .invokevirtual 414, 3), (84, .pop, 1), (85, .iconst 0, 1), (86, .istore_n 3, 1), (87, .iload_n 3, 1), (88, .bipush 60, 2), (90, .if_icmp .gt 43, 3), (93, .aload_n 0, 1), (94, .getfield 69, 3), (97, .iload_n 3, 1), (98, .laload, 1), (99, .aload_n 0, 1), (100, .getfield 105, 3), (103, .iload_n 3, 1), (104, .laload, 1), (105, .lcmp, 1), (106, .ifCond .ne 19, 3), (109, .aload_n 0, 1), (110, .getfield 72, 3), (113, .iload_n 3, 1), (114, .laload, 1), (115, .aload_n 0, 1), (116, .getfield 108, 3), (119, .iload_n 3, 1), (120, .laload, 1), (121, .lcmp, 1), (122, .ifCond .eq 5, 3), (125, .iload_n 3, 1), (126, .ireturn, 1), (127, .iinc 3 1, 3), (130, .goto (-43), 3), (133, .iconst (-1), 1), (134, .ireturn, 1)]
def gC232 : List (Nat × Instr × Nat) := [(0, .aload_n 0, 1), (1, .getfield 41, 3), (4, .bipush 6, 2), (6, .iload_n 1, 1), (7, .iadd, 1), (8, .iaload, 1), (9, .istore_n 3, 1), (10, .aload_n 0, 1), (11, .getfield 41, 3), (14, .bipush 6, 2), (16, .iload_n 1, 1), (17, .iadd, 1), (18, .aload_n 0, 1), (19, .getfield 41, 3), (22, .bipush 6, 2), (24, .iload_n 2, 1), (25, .iadd, 1), (26, .iaload, 1), (27, .iastore, 1), (28, .aload_n 0, 1), (29, .getfield 41, 3), (32, .bipush 6, 2), (34, .iload_n 2, 1), (35, .iadd, 1), (36, .iload_n 3, 1), (37, .iastore, 1), (38, .return_, 1)]
def gC233 : List (Nat × Instr × Nat) := [(0, .aload_n 0, 1), (1, .iload_n 1, 1), (2, .invokevirtual 314, 3), (5, .ifCond .eq 36, 3), (8, .aload_n 0, 1), (9, .iload_n 2, 1), (10, .invokevirtual 314, 3), (13, .ifCond .eq 28, 3), (16, .aload_n 0, 1), (17, .getfield 41, 3), (20, .bipush 6, 2), (22, .iload_n 1, 1), (23, .iadd, 1), (24, .iaload, 1), (25, .aload_n 0, 1), (26, .getfield 41, 3), (29, .bipush 6, 2), (31, .iload_n 2, 1), (32, .iadd, 1), (33, .iaload, 1), (34, .if_icmp .eq 7, 3), (37, .iconst 1, 1), (38, .goto 4, 3), (41, .iconst 0, 1), (42, .ireturn, 1)]
def gC234 : List (Nat × Instr × Nat) := [(0, .aload_n 0, 1), (1, .iconst 0, 1), (2, .putfield 1, 3), (5, .aload_n 0, 1), (6, .getfield 41, 3), (9, .iconst 2, 1), (10, .iaload, 1), (11, .bipush 24, 2), (13, .if_icmp .le 5, 3), (16, .iconst (-1), 1), (17, .ireturn, 1), (18, .aload_n 0, 1), (19, .aload_n 0, 1), (20, .getfield 299, 3), (23, .aload_n 0, 1), (24, .getfield 302, 3), (27, .invokevirtual 414, 3), (30, .pop, 1), (31, .aload_n 0, 1), (32, .getfield 399, 3), (35, .ifCond .eq 5, 3), (38, .iconst (-1), 1), (39, .ireturn, 1), (40, .aload_n 0, 1), (41, .getfield 41, 3), (44, .iconst 0, 1), (45, .iaload, 1), (46, .aload_n 0, 1), (47, .getfield 41, 3), (50, .iconst 1, 1), (51, .iaload, 1), (52, .imul, 1), (53, .istore_n 1, 1), (54, .iconst 0, 1), (55, .istore_n 2, 1), (56, .iload_n 2, 1), (57, .iload_n 1, 1), (58, .if_icmp .ge 75, 3), (61, .iload_n 2, 1), (62, .iconst 1, 1), (63, .iadd, 1), (64, .istore_n 3, 1), (65, .iload_n 3, 1), (66, .iload_n 1, 1), (67, .if_icmp .ge 60, 3), (70, .aload_n 0, 1), (71, .iload_n 2, 1), (72, .iload_n 3, 1), (73, .invokevirtual 456, 3), (76, .ifCond .ne 6, 3), (79, .goto 42, 3), (82, .aload_n 0, 1), (83, .iload_n 2, 1), (84, .iload_n 3, 1), (85, .invokevirtual 459, 3), (88, .aload_n 0, 1), (89, .aload_n 0, 1), (90, .getfield 299, 3), (93, .aload_n 0, 1), (94, .getfield 302, 3), (97, .invokevirtual 414, 3), (100, .pop, 1), (101, .aload_n 0, 1), (102, .iload_n 2, 1), (103, .iload_n 3, 1), (104, .invokevirtual 459, 3), (107, .aload_n 0, 1), (108, .getfield 399, 3), (111, .ifCond .eq 10, 3), (114, .bipush 100, 2), (116, .iload_n 2, 1), (117, .imul, 1), (118, .iload_n 3, 1), (119, .iadd, 1), (120, .ireturn, 1), (121, .iinc 3 1, 3), (124, .goto (-59), 3), (127, .iinc 2 1, 3), (130, .goto (-74), 3), (133, .iconst (-1), 1), (134, .ireturn, 1)]
def gC235 : List (Nat × Instr × Nat) := [(0, .aload_n 0, 1), (1, .iconst 0, 1), (2, .putfield 1, 3), (5, .aload_n 0, 1), (6, .iload_n 1, 1), (7, .invokevirtual 314, 3), (10, .ifCond .eq 16, 3), (13, .aload_n 0, 1), (14, .iload_n 2, 1), (15, .invokevirtual 314, 3), (18, .ifCond .eq 8, 3), (21, .iload_n 1, 1), (22, .iload_n 2, 1), (23, .if_icmp .ne 5, 3), (26, .iconst 0, 1), (27, .ireturn, 1), (28, .aload_n 0, 1), (29, .iload_n 1, 1), (30, .iload_n 2, 1), (31, .invokevirtual 459, 3), (34, .iconst 1, 1), (35, .ireturn, 1)]
def gC236 : List (Nat × Instr × Nat) := [(0, .aload_n 0, 1), (1, .getfield 41, 3), (4, .iconst 0, 1), (5, .iaload, 1), (6, .aload_n 0, 1), (7, .getfield 41, 3), (10, .iconst 1, 1), (11, .iaload, 1), (12, .imul, 1), (13, .istore_n 2, 1), (14, .iconst 0, 1), (15, .istore_n 3, 1), (16, .iload_n 3, 1), (17, .iload_n 2, 1), (18, .if_icmp .ge 71, 3), (21, .iload_n 3, 1), (22, .iconst 1, 1), (23, .iadd, 1), (24, .istore 4, 2), (26, .iload 4, 2), (28, .iload_n 2, 1), (29, .if_icmp .ge 54, 3), (32, .aload_n 0, 1), (33, .iload_n 3, 1), (34, .iload 4, 2), (36, .invokevirtual 456, 3), (39, .ifCond .ne 6, 3), (42, .goto 35, 3), (45, .aload_n 0, 1), (46, .iload_n 3, 1), (47, .iload 4, 2), (49, .invokevirtual 459, 3), (52, .aload_n 0, 1), (53, .aload_n 0, 1), (54, .getfield 299, 3), (57, .aload_n 0, 1), (58, .getfield 302, 3), (61, .invokevirtual 414, 3), (64, .iload_n 1, 1), (65, .if_icmp .le 5, 3), (68, .iconst 1, 1), (69, .ireturn, 1), (70, .aload_n 0, 1), (71, .iload_n 3, 1), (72, .iload 4, 2), (74, .invokevirtual 459, 3), (77, .iinc 4 1, 3), (80, .goto (-54), 3), (83, .iinc 3 1, 3), (86, .goto (-70), 3), (89, .iconst 0, 1), (90, .ireturn, 1)]
def gC237 : List (Nat × Instr × Nat) := [(0, .aload_n 0, 1), (1, .iconst 0, 1), (2, .putfield 1, 3), (5, .aload_n 0, 1), (6, .getfield 41, 3), (9, .iconst 2, 1), (10, .iaload, 1), (11, .bipush 24, 2), (13, .if_icmp .le 5, 3), (16, .iconst (-1), 1), (17, .ireturn, 1), (18, .aload_n 0, 1), (19, .iconst 0, 1), (20, .putfield 463, 3), (23, .aload_n 0, 1), (24, .aload_n 0, 1), (25, .getfield 299, 3), (28, .aload_n 0, 1), (29, .getfield 302, 3), (32, .invokevirtual 414, 3), (35, .istore_n 1, 1), (36, .aload_n 0, 1), (37, .getfield 463, 3), (40, .bipush 20, 2), (42, .if_icmp .ge 29, 3), (45, .aload_n 0, 1), (46, .iload_n 1, 1), (47, .invokevirtual 466, 3), (50, .ifCond .eq 21, 3), (53, .aload_n 0, 1), (54, .getfield 396, 3), (57, .istore_n 1, 1), (58, .aload_n 0, 1), (59, .dup, 1), (60, .getfield 463, 3), (63, .iconst 1, 1), (64, .iadd, 1), (65, .putfield 463, 3), (68, .goto (-32), 3), (71, .iload_n 1, 1), (72, .ireturn, 1)]
def gC238 : List (Nat × Instr × Nat) := [(0, .aload_n 0, 1), (1, .iconst 0, 1), (2, .putfield 1, 3), (5, .aload_n 0, 1), (6, .getfield 463, 3), (9, .ireturn, 1)]
def gC239 : List (Nat × Instr × Nat) := [(0, .aload_n 0, 1), (1, .iconst 0, 1), (2, .putfield 1, 3), (5, .aload_n 0, 1), (6, .iload_n 1, 1), (7, .invokevirtual 314, 3), (10, .ifCond .eq 17, 3), (13, .aload_n 0, 1), (14, .lconst 1, 1), (15, .iload_n 1, 1), (16, .lshl, 1), (17, .aload_n 0, 1), (18, .getfield 302, 3), (21, .invokevirtual 414, 3), (24, .goto 4, 3), (27, .iconst (-1), 1), (28, .ireturn, 1)]
def gC240 : List (Nat × Instr × Nat) := [(0, .aload_n 0, 1), (1, .iconst 0, 1), (2, .putfield 1, 3), (5, .iload_n 1, 1), (6, .iconst 0, 1), (7, .iconst 1, 1), (8, .invokestatic 168, 3), (11, .ifCond .ne 5, 3), (14, .iconst (-1), 1), (15, .ireturn, 1), (16, .iconst (-1), 1), (17, .istore_n 2, 1), (18, .iconst (-1), 1), (19, .istore_n 3, 1), (20, .iconst 0, 1), (21, .istore 4, 2), (23, .iload 4, 2), (25, .aload_n 0, 1), (26, .getfield 41, 3), (29, .iconst 0, 1), (30, .iaload, 1), (31, .aload_n 0, 1), (32, .getfield 41, 3), (35, .iconst 1, 1), (36, .iaload, 1), (37, .imul, 1), (38, .if_icmp .ge 70, 3), (41, .aload_n 0, 1), (42, .iload 4, 2), (44, .invokevirtual 314, 3), (47, .ifCond .ne 6, 3), (50, .goto 52, 3), (53, .aload_n 0, 1), (54, .lconst 1, 1), (55, .iload 4, 2), (57, .lshl, 1), (58, .aload_n 0, 1), (59, .getfield 302, 3), (62, .invokevirtual 414, 3), (65, .istore 5, 2), (67, .iload 5, 2), (69, .iload_n 3, 1), (70, .if_icmp .lt 32, 3), (73, .iload 5, 2), (75, .iload_n 3, 1), (76, .if_icmp .ne 20, 3), (79, .aload_n 0, 1), (80, .iload 4, 2), (82, .invokevirtual 321, 3), (85, .aload_n 0, 1), (86, .iload_n 2, 1), (87, .invokevirtual 321, 3), (90, .if_icmp .lt 6, 3), (93, .goto 9, 3), (96, .iload 5, 2), (98, .istore_n 3, 1), (99, .iload 4, 2), (101, .istore_n 2, 1), (102, .iinc 4 1, 3), (105, .goto (-82), 3), (108, .iload_n 1, 1), (109, .ifCond .ne 7, 3), (112, .iload_n 2, 1), (113, .goto 4, 3), (116, .iload_n 3, 1), (117, .ireturn, 1)]
def gC241 : List (Nat × Instr × Nat) := [(0, .aload_n 0, 1), (1, .aload_n 0, 1), (2, .getfield 469, 3), (5, .ldc_w 472, 3), (8, .imul, 1), (9, .sipush 12345, 3), (12, .iadd, 1), (13, .putfield 469, 3), (16, .aload_n 0, 1), (17, .getfield 469, 3), (20, .bipush 8, 2), (22, .iushr, 1), (23, .iload_n 1, 1), (24, .irem, 1), (25, .ireturn, 1)]
def gC242 : List (Nat × Instr × Nat) := [(0, .aload_n 0, 1), (1, .iconst 0, 1), (2, .putfield 1, 3), (5, .iload_n 1, 1), (6, .iconst 1, 1), (7, .aload_n 0, 1), (8, .getfield 41, 3), (11, .iconst 2, 1), (12, .iaload, 1), (13, .invokestatic 168, 3), (16, .ifCond .ne 5, 3), (19, .iconst 0, 1), (20, .ireturn, 1), (21, .aload_n 0, 1), (22, .iload_n 2, 1), (23, .putfield 469, 3), (26, .lconst 0, 1), (27, .lstore_n 3, 1), (28, .iconst 0, 1), (29, .istore 5, 2), (31, .iload 5, 2), (33, .iload_n 1, 1), (34, .if_icmp .ge 91, 3), (37, .aload_n 0, 1), (38, .aload_n 0, 1), (39, .getfield 41, 3), (42, .iconst 2, 1), (43, .iaload, 1), (44, .iload 5, 2), (46, .isub, 1), (47, .invokevirtual 473, 3), (50, .istore 6, 2), (52, .iconst 0, 1), (53, .istore 7, 2), (55, .aload_n 0, 1), (56, .iload 7, 2), (58, .invokevirtual 314, 3), (61, .ifCond .eq 17, 3), (64, .lload_n 3, 1), (65, .iload 7, 2), (67, .invokestatic 324, 3), (70, .ifCond .ne 8, 3), (73, .iload 6, 2), (75, .ifCond .le 37, 3), (78, .iload 6, 2), (80, .aload_n 0, 1), (81, .iload 7, 2), (83, .invokevirtual 314, 3), (86, .ifCond .eq 16, 3), (89, .lload_n 3, 1), (90, .iload 7, 2), (92, .invokestatic 324, 3), (95, .ifCond .ne 7, 3), (98, .iconst 1, 1), (99, .goto 4, 3), (102, .iconst 0, 1), (103, .isub, 1), (104, .istore 6, 2), (106, .iinc 7 1, 3), (109, .goto (-54), 3), (112, .lload_n 3, 1), (113, .lconst 1, 1), (114, .iload 7, 2), (116, .lshl, 1), (117, .lor, 1), (118, .lstore_n 3, 1), (119, .iinc 5 1, 3), (122, .goto (-91), 3), (125, .aload_n 0, 1), (126, .lload_n 3, 1), (127, .putfield 299, 3), (130, .iconst 1, 1), (131, .ireturn, 1)]
def gC243 : List (Nat × Instr × Nat) := [(0, .aload_n 0, 1), (1, .iconst 0, 1), (2, .putfield 1, 3), (5, .iload_n 1, 1), (6, .iconst 0, 1), (7, .iconst 1, 1), (8, .invokestatic 168, 3), (11, .ifCond .ne 5, 3), (14, .iconst 0, 1), (15, .ireturn, 1), (16, .iconst 0, 1), (17, .istore_n 2, 1), (18, .iload_n 2, 1), (19, .sipush 681, 3), (22, .if_icmp .ge 27, 3), (25, .aload_n 0, 1), (26, .getfield 111, 3), (29, .sipush 681, 3), (32, .iload_n 1, 1), (33, .imul, 1), (34, .iload_n 2, 1), (35, .iadd, 1), (36, .aload_n 0, 1), (37, .getfield 41, 3), (40, .iload_n 2, 1), (41, .iaload, 1), (42, .iastore, 1), (43, .iinc 2 1, 3), (46, .goto (-28), 3), (49, .aload_n 0, 1), (50, .getfield 114, 3), (53, .iload_n 1, 1), (54, .aload_n 0, 1), (55, .getfield 299, 3), (58, .lastore, 1), (59, .aload_n 0, 1), (60, .getfield 117, 3), (63, .iload_n 1, 1), (64, .aload_n 0, 1), (65, .getfield 302, 3), (68, .lastore, 1), (69, .aload_n 0, 1), (70, .getfield 120, 3), (73, .iload_n 1, 1), (74, .iconst 1, 1), (75, .bastore, 1), (76, .iconst 1, 1), (77, .ireturn, 1)]
def gC244 : List (Nat × Instr × Nat) := [(0, .aload_n 0, 1), (1, .iconst 0, 1), (2, .putfield 1, 3), (5, .iload_n 1, 1), (6, .iconst 0, 1), (7, .iconst 1, 1), (8, .invokestatic 168, 3), (11, .ifCond .eq 12, 3), (14, .aload_n 0, 1), (15, .getfield 120, 3), (18, .iload_n 1, 1), (19, .baload, 1), (20, .ifCond .ne 5, 3), (23, .iconst 0, 1), (24, .ireturn, 1), (25, .iconst 0, 1), (26, .istore_n 2, 1), (27, .iload_n 2, 1), (28, .sipush 681, 3), (31, .if_icmp .ge 27, 3), (34, .aload_n 0, 1), (35, .getfield 41, 3), (38, .iload_n 2, 1), (39, .aload_n 0, 1), (40, .getfield 111, 3), (43, .sipush 681, 3), (46, .iload_n 1, 1), (47, .imul, 1), (48, .iload_n 2, 1), (49, .iadd, 1), (50, .iaload, 1), (51, .iastore, 1), (52, .iinc 2 1, 3), (55, .goto (-28), 3), (58, .aload_n 0, 1), (59, .aload_n 0, 1), (60, .getfield 114, 3), (63, .iload_n 1, 1), (64, .laload, 1), (65, .putfield 299, 3), (68, .aload_n 0, 1), (69, .aload_n 0, 1), (70, .getfield 117, 3), (73, .iload_n 1, 1), (74, .laload, 1), (75, .putfield 302, 3), (78, .aload_n 0, 1), (79, .iconst 1, 1), (80, .putfield 65, 3), (83, .iconst 1, 1), (84, .ireturn, 1)]
def gC245 : List (Nat × Instr × Nat) := [(0, .aload_n 0, 1), (1, .iconst 0, 1), (2, .putfield 1, 3), (5, .iload_n 1, 1), (6, .iconst 0, 1), (7, .iconst 5, 1), (8, .invokestatic 168, 3), (11, .ifCond .eq 10, 3), (14, .aload_n 0, 1), (15, .getfield 41, 3), (18, .iload_n 1, 1), (19, .iaload, 1), (20, .ireturn, 1), (21, .iload_n 1, 1), (22, .bipush 6, 2), (24, .if_icmp .ne 13, 3), (27, .aload_n 0, 1), (28, .getfield 299, 3), (31, .invokestatic 344, 3), (34, .goto 50, 3), (37, .iload_n 1, 1), (38, .bipush 7, 2), (40, .if_icmp .ne 13, 3), (43, .aload_n 0, 1), (44, .getfield 302, 3), (47, .invokestatic 344, 3), (50, .goto 34, 3), (53, .iload_n 1, 1), (54, .bipush 8, 2), (56, .if_icmp .ne 10, 3), (59, .aload_n 0, 1), (60, .getfield 7, 3), (63, .goto 21, 3), (66, .iload_n 1, 1), (67, .bipush 9, 2), (69, .if_icmp .ne 14, 3), (72, .aload_n 0, 1), (73, .getfield 41, 3), (76, .sipush 590, 3), (79, .iaload, 1), (80, .goto 4, 3), (83, .iconst (-1), 1), (84, .ireturn, 1)]
def gC246 : List (Nat × Instr × Nat) := [(0, .aload_n 3, 1), (1, .iconst 0, 1), (2, .aload_n 0, 1), (3, .iload_n 1, 1), (4, .iload_n 2, 1), (5, .invokevirtual 7, 3), (8, .i2l, 1), (9, .lastore, 1), (10, .goto 7, 3), (13, .astore 4, 2), (15, .iconst 1, 1), (16, .ireturn, 1), (17, .iconst 0, 1), (18, .ireturn, 1)]
def gC247 : List (Nat × Instr × Nat) := [(0, .aload_n 3, 1), (1, .iconst 0, 1), (2, .aload_n 0, 1), (3, .iload_n 1, 1), (4, .iload_n 2, 1), (5, .invokevirtual 15, 3), (8, .i2l, 1), (9, .lastore, 1), (10, .goto 7, 3), (13, .astore 4, 2), (15, .iconst 1, 1), (16, .ireturn, 1), (17, .iconst 0, 1), (18, .ireturn, 1)]
def gC248 : List (Nat × Instr × Nat) := [(0, .aload_n 3, 1), (1, .iconst 0, 1), (2, .aload_n 0, 1), (3, .iload_n 1, 1), (4, .iload_n 2, 1), (5, .invokevirtual 18, 3), (8, .i2l, 1), (9, .lastore, 1), (10, .goto 7, 3), (13, .astore 4, 2), (15, .iconst 1, 1), (16, .ireturn, 1), (17, .iconst 0, 1), (18, .ireturn, 1)]
def gC249 : List (Nat × Instr × Nat) := [(0, .iload_n 0, 1), (1, .iload_n 0, 1), (2, .iconst 1, 1), (3, .iushr, 1), (4, .ldc_w 265, 3), (7, .iand, 1), (8, .isub, 1), (9, .istore_n 0, 1), (10, .iload_n 0, 1), (11, .ldc_w 266, 3), (14, .iand, 1), (15, .iload_n 0, 1), (16, .iconst 2, 1), (17, .iushr, 1), (18, .ldc_w 266, 3), (21, .iand, 1), (22, .iadd, 1), (23, .istore_n 0, 1), (24, .iload_n 0, 1), (25, .iload_n 0, 1), (26, .iconst 4, 1), (27, .iushr, 1), (28, .iadd, 1), (29, .ldc_w 267, 3), (32, .iand, 1), (33, .istore_n 0, 1), (34, .iload_n 0, 1), (35, .iload_n 0, 1), (36, .bipush 8, 2), (38, .iushr, 1), (39, .iadd, 1), (40, .istore_n 0, 1), (41, .iload_n 0, 1), (42, .iload_n 0, 1), (43, .bipush 16, 2), (45, .iushr, 1), (46, .iadd, 1), (47, .istore_n 0, 1), (48, .iload_n 0, 1), (49, .bipush 63, 2), (51, .iand, 1), (52, .ireturn, 1)]
def gC250 : List (Nat × Instr × Nat) := [(0, .lload_n 0, 1), (1, .lload_n 0, 1), (2, .iconst 1, 1), (3, .lushr, 1), (4, .ldc2_w 314, 3), (7, .land, 1), (8, .lsub, 1), (9, .lstore_n 0, 1), (10, .lload_n 0, 1), (11, .ldc2_w 316, 3), (14, .land, 1), (15, .lload_n 0, 1), (16, .iconst 2, 1), (17, .lushr, 1), (18, .ldc2_w 316, 3), (21, .land, 1), (22, .ladd, 1), (23, .lstore_n 0, 1), (24, .lload_n 0, 1), (25, .lload_n 0, 1), (26, .iconst 4, 1), (27, .lushr, 1), (28, .ladd, 1), (29, .ldc2_w 318, 3), (32, .land, 1), (33, .lstore_n 0, 1), (34, .lload_n 0, 1), (35, .lload_n 0, 1), (36, .bipush 8, 2), (38, .lushr, 1), (39, .ladd, 1), (40, .lstore_n 0, 1), (41, .lload_n 0, 1), (42, .lload_n 0, 1), (43, .bipush 16, 2), (45, .lushr, 1), (46, .ladd, 1), (47, .lstore_n 0, 1), (48, .lload_n 0, 1), (49, .lload_n 0, 1), (50, .bipush 32, 2), (52, .lushr, 1), (53, .ladd, 1), (54, .lstore_n 0, 1), (55, .lload_n 0, 1), (56, .l2i, 1), (57, .bipush 127, 2), (59, .iand, 1), (60, .ireturn, 1)]
def gC251 : List (Nat × Instr × Nat) := [(0, .iconst 0, 1), (1, .istore_n 3, 1), (2, .aload_n 0, 1), (3, .arraylength, 1), (4, .istore 4, 2), (6, .iload_n 3, 1), (7, .iload 4, 2), (9, .if_icmp .ge 13, 3), (12, .aload_n 0, 1), (13, .iload_n 3, 1), (14, .lload_n 1, 1), (15, .lastore, 1), (16, .iinc 3 1, 3), (19, .goto (-13), 3), (22, .return_, 1)]
def gC252 : List (Nat × Instr × Nat) := [(0, .iconst 0, 1), (1, .istore_n 2, 1), (2, .aload_n 0, 1), (3, .arraylength, 1), (4, .istore_n 3, 1), (5, .iload_n 2, 1), (6, .iload_n 3, 1), (7, .if_icmp .ge 13, 3), (10, .aload_n 0, 1), (11, .iload_n 2, 1), (12, .iload_n 1, 1), (13, .iastore, 1), (14, .iinc 2 1, 3), (17, .goto (-12), 3), (20, .return_, 1)]
def gCs : List (List (Nat × Instr × Nat)) := [gC0, gC1, gC2, gC3, gC4, gC5, gC6, gC7, gC8, gC9, gC10, gC11, gC12, gC13, gC14, gC15, gC16, gC17, gC18, gC19, gC20, gC21, gC22, gC23, gC24, gC25, gC26, gC27, gC28, gC29, gC30, gC31, gC32, gC33, gC34, gC35, gC36, gC37, gC38, gC39, gC40, gC41, gC42, gC43, gC44, gC45, gC46, gC47, gC48, gC49, gC50, gC51, gC52, gC53, gC54, gC55, gC56, gC57, gC58, gC59, gC60, gC61, gC62, gC63, gC64, gC65, gC66, gC67, gC68, gC69, gC70, gC71, gC72, gC73, gC74, gC75, gC76, gC77, gC78, gC79, gC80, gC81, gC82, gC83, gC84, gC85, gC86, gC87, gC88, gC89, gC90, gC91, gC92, gC93, gC94, gC95, gC96, gC97, gC98, gC99, gC100, gC101, gC102, gC103, gC104, gC105, gC106, gC107, gC108, gC109, gC110, gC111, gC112, gC113, gC114, gC115, gC116, gC117, gC118, gC119, gC120, gC121, gC122, gC123, gC124, gC125, gC126, gC127, gC128, gC129, gC130, gC131, gC132, gC133, gC134, gC135, gC136, gC137, gC138, gC139, gC140, gC141, gC142, gC143, gC144, gC145, gC146, gC147, gC148, gC149, gC150, gC151, gC152, gC153, gC154, gC155, gC156, gC157, gC158, gC159, gC160, gC161, gC162, gC163, gC164, gC165, gC166, gC167, gC168, gC169, gC170, gC171, gC172, gC173, gC174, gC175, gC176, gC177, gC178, gC179, gC180, gC181, gC182, gC183, gC184, gC185, gC186, gC187, gC188, gC189, gC190, gC191, gC192, gC193, gC194, gC195, gC196, gC197, gC198, gC199, gC200, gC201, gC202, gC203, gC204, gC205, gC206, gC207, gC208, gC209, gC210, gC211, gC212, gC213, gC214, gC215, gC216, gC217, gC218, gC219, gC220, gC221, gC222, gC223, gC224, gC225, gC226, gC227, gC228, gC229, gC230, gC231, gC232, gC233, gC234, gC235, gC236, gC237, gC238, gC239, gC240, gC241, gC242, gC243, gC244, gC245, gC246, gC247, gC248, gC249, gC250, gC251, gC252]
/-- field references: class, pool number, the object's class, its field -/
def gF : List (Nat × Nat × Nat × Nat) := [(7, 9, 6, 0), (6, 9, 6, 0), (8, 44, 6, 0), (9, 290, 6, 0), (9, 86, 6, 1), (6, 15, 6, 1), (3, 37, 3, 0), (4, 67, 3, 0), (0, 76, 3, 0), (5, 121, 3, 0), (9, 350, 3, 0), (3, 41, 3, 1), (0, 81, 3, 1), (4, 82, 3, 1), (9, 353, 3, 1), (3, 44, 3, 2), (1, 91, 3, 2), (8, 86, 3, 2), (4, 141, 3, 2), (9, 248, 3, 2), (3, 47, 3, 3), (5, 82, 3, 3), (2, 69, 3, 3), (4, 144, 3, 3), (9, 356, 3, 3), (3, 50, 3, 4), (5, 118, 3, 4), (4, 147, 3, 4), (9, 359, 3, 4), (3, 54, 3, 5), (5, 115, 3, 5), (9, 210, 3, 5), (3, 9, 3, 6), (4, 92, 3, 6), (9, 135, 3, 6), (8, 164, 3, 6), (3, 15, 3, 7), (5, 157, 3, 7), (3, 19, 3, 8), (4, 135, 3, 8), (3, 22, 3, 9), (5, 154, 3, 9), (4, 138, 3, 9), (3, 25, 3, 10), (5, 46, 3, 10), (4, 96, 3, 10), (9, 157, 3, 10), (3, 28, 3, 11), (4, 121, 3, 11), (5, 160, 3, 11), (3, 31, 3, 12), (9, 195, 3, 12), (5, 174, 3, 12), (5, 15, 2, 0), (2, 12, 2, 0), (9, 41, 2, 0), (8, 66, 2, 0), (1, 87, 2, 0), (2, 18, 2, 1), (0, 51, 2, 1), (5, 141, 2, 1), (9, 173, 2, 1), (2, 22, 2, 2), (0, 64, 2, 2), (5, 144, 2, 2), (9, 176, 2, 2), (2, 25, 2, 3), (0, 67, 2, 3), (5, 147, 2, 3), (9, 179, 2, 3), (0, 23, 2, 4), (2, 31, 2, 4), (5, 138, 2, 4), (9, 170, 2, 4), (2, 35, 2, 5), (1, 41, 2, 5), (8, 89, 2, 5), (9, 146, 2, 5), (2, 39, 2, 6), (1, 47, 2, 6), (8, 106, 2, 6), (9, 154, 2, 6), (7, 15, 7, 0), (7, 24, 7, 1), (7, 28, 7, 2), (0, 29, 7, 3), (7, 43, 7, 3), (4, 75, 7, 3), (9, 106, 7, 3), (7, 40, 7, 4), (9, 114, 7, 4), (7, 31, 7, 5), (7, 46, 7, 6), (0, 87, 7, 6), (4, 132, 7, 6), (0, 59, 7, 7), (4, 126, 7, 7), (7, 70, 7, 7), (7, 34, 7, 8), (9, 113, 7, 8), (4, 9, 4, 0), (4, 15, 4, 1), (4, 99, 4, 2), (4, 19, 4, 3), (4, 23, 4, 4), (4, 27, 4, 5), (4, 118, 4, 6), (0, 9, 0, 0), (0, 15, 0, 1), (0, 19, 0, 2), (5, 9, 5, 0), (5, 21, 5, 1), (5, 62, 5, 2), (5, 66, 5, 3), (5, 80, 5, 4), (5, 56, 5, 5), (5, 59, 5, 6), (5, 69, 5, 7), (5, 28, 5, 8), (1, 73, 5, 8), (8, 158, 5, 8), (5, 34, 5, 9), (1, 75, 5, 9), (8, 161, 5, 9), (9, 234, 5, 9), (5, 39, 5, 10), (1, 77, 5, 10), (5, 44, 5, 11), (1, 79, 5, 11), (1, 57, 5, 12), (5, 72, 5, 12), (1, 24, 1, 0), (1, 33, 1, 1), (1, 9, 1, 2), (5, 22, 1, 2), (9, 188, 1, 2), (1, 15, 1, 3), (5, 31, 1, 3), (9, 192, 1, 3), (1, 18, 1, 4), (5, 36, 1, 4), (9, 204, 1, 4), (1, 21, 1, 5), (5, 41, 1, 5), (9, 207, 1, 5), (1, 37, 1, 6), (8, 40, 8, 0), (8, 49, 8, 1), (8, 55, 8, 2), (9, 213, 8, 2), (8, 59, 8, 3), (8, 9, 8, 4), (8, 15, 8, 5), (9, 266, 8, 5), (8, 18, 8, 6), (9, 278, 8, 6), (8, 119, 8, 7), (9, 272, 8, 7), (8, 21, 8, 8), (9, 257, 8, 8), (8, 25, 8, 9), (9, 299, 8, 9), (8, 28, 8, 10), (9, 302, 8, 10), (8, 31, 8, 11), (9, 305, 8, 11), (8, 34, 8, 12), (9, 320, 8, 12), (8, 37, 8, 13), (9, 323, 8, 13), (8, 133, 8, 14), (8, 136, 8, 15), (8, 139, 8, 16), (9, 10, 9, 0), (9, 19, 9, 1), (9, 23, 9, 2), (9, 26, 9, 3), (9, 35, 9, 4), (9, 48, 9, 5), (9, 57, 9, 6), (9, 66, 9, 7), (9, 75, 9, 8), (9, 79, 9, 9), (9, 83, 9, 10), (10, 1, 10, 0), (10, 14, 10, 1), (10, 7, 10, 2), (10, 18, 10, 3), (10, 21, 10, 4), (10, 24, 10, 5), (10, 41, 10, 6), (10, 45, 10, 7), (10, 48, 10, 8), (10, 136, 10, 9), (10, 130, 10, 10), (10, 133, 10, 11), (10, 146, 10, 12), (10, 153, 10, 13), (10, 156, 10, 14), (10, 149, 10, 15), (10, 299, 10, 16), (10, 302, 10, 17), (10, 172, 10, 18), (10, 290, 10, 19), (10, 194, 10, 20), (10, 206, 10, 21), (10, 219, 10, 22), (10, 51, 10, 23), (10, 54, 10, 24), (10, 57, 10, 25), (10, 229, 10, 26), (10, 232, 10, 27), (10, 235, 10, 28), (10, 61, 10, 29), (10, 65, 10, 30), (10, 330, 10, 31), (10, 69, 10, 32), (10, 72, 10, 33), (10, 75, 10, 34), (10, 78, 10, 35), (10, 367, 10, 36), (10, 370, 10, 37), (10, 351, 10, 38), (10, 348, 10, 39), (10, 354, 10, 40), (10, 357, 10, 41), (10, 373, 10, 42), (10, 376, 10, 43), (10, 396, 10, 44), (10, 399, 10, 45), (10, 81, 10, 46), (10, 418, 10, 47), (10, 84, 10, 48), (10, 87, 10, 49), (10, 90, 10, 50), (10, 93, 10, 51), (10, 435, 10, 52), (10, 438, 10, 53), (10, 96, 10, 54), (10, 441, 10, 55), (10, 447, 10, 56), (10, 450, 10, 57), (10, 444, 10, 58), (10, 99, 10, 59), (10, 102, 10, 60), (10, 105, 10, 61), (10, 108, 10, 62), (10, 463, 10, 63), (10, 469, 10, 64), (10, 111, 10, 65), (10, 114, 10, 66), (10, 117, 10, 67), (10, 120, 10, 68)]
/-- method references: class, pool number, the method (1000 and on: Object.<init>, arraycopy, String.length, String.charAt, the exception's <init>), by the nest -/
def gCall : List (Nat × Nat × Nat × Nat) := [(11, 21, 98, 0), (9, 1, 1000, 0), (9, 9, 65, 1), (6, 3, 1000, 0), (9, 18, 13, 1), (2, 3, 1000, 0), (2, 11, 20, 0), (3, 3, 1000, 0), (3, 34, 21, 0), (3, 58, 251, 0), (3, 64, 252, 0), (9, 32, 68, 0), (7, 3, 1000, 0), (9, 45, 35, 0), (4, 3, 1000, 0), (9, 54, 1, 0), (0, 3, 1000, 0), (9, 63, 5, 0), (1, 3, 1000, 0), (1, 30, 49, 0), (5, 3, 1000, 0), (9, 72, 79, 0), (8, 3, 1000, 0), (8, 52, 49, 0), (11, 25, 99, 0), (9, 89, 66, 0), (11, 30, 100, 0), (11, 35, 101, 0), (9, 93, 14, 0), (2, 28, 21, 0), (9, 96, 67, 0), (9, 100, 69, 0), (7, 18, 1006, 0), (7, 37, 70, 0), (9, 104, 36, 0), (9, 109, 37, 0), (4, 32, 73, 0), (7, 49, 1002, 0), (7, 54, 74, 0), (7, 58, 1003, 0), (7, 62, 72, 0), (4, 38, 38, 0), (4, 61, 75, 0), (4, 72, 70, 0), (4, 78, 71, 0), (4, 85, 72, 0), (4, 89, 39, 0), (4, 42, 40, 0), (4, 102, 41, 0), (4, 106, 42, 0), (4, 64, 78, 0), (7, 73, 75, 0), (4, 114, 43, 0), (4, 123, 77, 0), (7, 66, 76, 0), (4, 46, 44, 0), (4, 129, 76, 0), (4, 49, 45, 0), (4, 52, 46, 0), (4, 55, 47, 0), (4, 58, 48, 0), (9, 117, 32, 0), (3, 73, 23, 0), (3, 87, 31, 0), (3, 91, 143, 1), (3, 95, 24, 0), (3, 99, 33, 0), (3, 77, 25, 0), (3, 103, 34, 0), (3, 109, 1006, 0), (3, 81, 1005, 0), (9, 122, 15, 0), (2, 42, 22, 0), (3, 67, 1001, 0), (2, 46, 16, 0), (2, 50, 1001, 0), (9, 125, 6, 0), (11, 40, 102, 0), (11, 53, 104, 0), (11, 57, 105, 0), (9, 128, 24, 0), (9, 160, 143, 0), (11, 62, 106, 0), (11, 66, 107, 0), (9, 164, 2, 0), (0, 34, 3, 0), (0, 40, 73, 0), (0, 44, 75, 0), (0, 48, 70, 0), (0, 55, 77, 0), (0, 70, 4, 0), (0, 84, 76, 0), (0, 90, 24, 0), (0, 73, 78, 0), (9, 167, 16, 0), (11, 73, 109, 0), (9, 182, 141, 0), (9, 185, 7, 0), (1, 50, 52, 0), (5, 76, 17, 0), (2, 56, 29, 0), (2, 60, 1005, 0), (5, 85, 1005, 0), (5, 91, 56, 0), (5, 150, 143, 1), (5, 95, 57, 0), (5, 124, 28, 0), (5, 98, 58, 0), (1, 54, 8, 0), (1, 61, 55, 0), (5, 128, 59, 0), (5, 52, 61, 0), (5, 163, 62, 0), (5, 167, 63, 0), (5, 171, 64, 0), (5, 109, 250, 0), (5, 134, 60, 0), (1, 64, 1006, 0), (1, 70, 1005, 0), (9, 198, 250, 0), (11, 78, 110, 0), (9, 150, 142, 0), (11, 83, 111, 0), (11, 87, 112, 0), (9, 217, 50, 0), (9, 223, 51, 0), (11, 91, 113, 0), (11, 96, 114, 0), (9, 227, 52, 0), (9, 231, 53, 0), (5, 102, 55, 0), (11, 100, 115, 0), (9, 236, 9, 0), (1, 81, 250, 0), (11, 104, 116, 0), (11, 108, 117, 0), (9, 239, 18, 0), (2, 66, 17, 0), (2, 72, 19, 0), (9, 242, 11, 0), (1, 96, 7, 0), (1, 100, 12, 0), (11, 112, 118, 0), (9, 245, 10, 0), (11, 116, 119, 0), (9, 251, 80, 0), (8, 62, 81, 0), (8, 72, 24, 0), (8, 78, 142, 1), (9, 254, 84, 0), (8, 93, 82, 0), (8, 97, 83, 0), (8, 82, 26, 0), (8, 101, 249, 0), (8, 109, 54, 0), (5, 105, 52, 0), (11, 120, 120, 0), (11, 124, 121, 0), (9, 260, 85, 0), (11, 128, 122, 0), (9, 263, 86, 0), (8, 113, 87, 0), (11, 132, 123, 0), (9, 269, 88, 0), (8, 116, 89, 0), (8, 122, 90, 0), (11, 139, 125, 0), (9, 293, 81, 0), (9, 296, 92, 0), (8, 125, 1006, 0), (8, 130, 1005, 0), (11, 143, 126, 0), (11, 147, 127, 0), (9, 308, 140, 0), (9, 311, 23, 0), (9, 314, 93, 0), (8, 142, 143, 1), (9, 317, 94, 0), (8, 146, 52, 0), (8, 150, 53, 0), (8, 154, 95, 0), (11, 151, 128, 0), (11, 155, 129, 0), (9, 326, 96, 0), (11, 159, 130, 0), (9, 330, 97, 0), (8, 167, 30, 0), (11, 163, 131, 0), (9, 333, 30, 0), (11, 167, 132, 0), (9, 336, 54, 0), (11, 171, 133, 0), (9, 340, 132, 0), (9, 139, 26, 0), (11, 175, 134, 0), (9, 344, 144, 0), (11, 179, 135, 0), (11, 183, 136, 0), (11, 187, 137, 0), (11, 191, 138, 0), (11, 195, 139, 0), (11, 44, 246, 0), (11, 7, 103, 0), (9, 134, 1004, 0), (9, 143, 27, 0), (11, 70, 247, 0), (11, 15, 108, 0), (11, 136, 248, 0), (11, 18, 124, 0), (9, 275, 90, 0), (9, 281, 1007, 0), (9, 286, 91, 0), (11, 50, 145, 0), (11, 29, 147, 0), (10, 10, 148, 0), (11, 34, 149, 0), (11, 24, 156, 0), (10, 35, 1000, 0), (10, 123, 157, 0), (11, 39, 181, 0), (10, 287, 150, 0), (10, 165, 161, 0), (10, 126, 158, 0), (10, 139, 159, 0), (10, 143, 160, 0), (10, 293, 167, 0), (10, 177, 163, 0), (10, 181, 170, 0), (10, 162, 162, 0), (10, 225, 155, 0), (10, 168, 151, 0), (10, 187, 171, 0), (10, 238, 177, 0), (10, 247, 179, 0), (10, 278, 178, 0), (10, 159, 164, 0), (10, 281, 175, 0), (10, 284, 180, 0), (10, 200, 166, 0), (10, 244, 172, 0), (10, 253, 173, 0), (10, 241, 174, 0), (10, 250, 176, 0), (10, 197, 169, 0), (10, 222, 152, 0), (10, 211, 168, 0), (10, 296, 165, 0), (11, 43, 182, 0), (11, 49, 187, 0), (10, 314, 183, 0), (10, 317, 146, 0), (10, 321, 188, 0), (10, 324, 153, 0), (11, 56, 189, 0), (11, 61, 190, 0), (11, 65, 191, 0), (11, 69, 193, 0), (10, 341, 192, 0), (10, 305, 184, 0), (11, 72, 194, 0), (11, 77, 204, 0), (10, 402, 203, 0), (10, 405, 201, 0), (10, 389, 199, 0), (10, 364, 186, 0), (10, 308, 185, 0), (10, 393, 200, 0), (10, 379, 196, 0), (10, 382, 197, 0), (10, 385, 198, 0), (10, 360, 195, 0), (10, 344, 154, 0), (11, 82, 205, 0), (11, 86, 206, 0), (11, 90, 207, 0), (11, 95, 208, 0), (11, 99, 209, 0), (11, 103, 211, 0), (10, 408, 210, 0), (11, 107, 212, 0), (11, 111, 214, 0), (10, 411, 213, 0), (11, 115, 215, 0), (10, 414, 202, 0), (11, 119, 219, 0), (10, 424, 217, 0), (10, 421, 216, 0), (10, 428, 218, 0), (11, 123, 220, 0), (11, 127, 221, 0), (11, 131, 222, 0), (11, 135, 224, 0), (10, 432, 223, 0), (11, 138, 225, 0), (11, 142, 226, 0), (11, 146, 227, 0), (11, 150, 229, 0), (10, 453, 228, 0), (11, 154, 230, 0), (11, 158, 231, 0), (11, 162, 234, 0), (10, 456, 233, 0), (10, 459, 232, 0), (11, 166, 235, 0), (11, 182, 237, 0), (10, 466, 236, 0), (11, 186, 238, 0), (11, 170, 239, 0), (11, 174, 240, 0), (11, 178, 242, 0), (10, 473, 241, 0), (11, 190, 243, 0), (11, 194, 244, 0), (11, 198, 245, 0)]
def gNew : List (Nat × Nat × Nat) := [(11, 8, 9), (9, 7, 6), (9, 16, 2), (2, 9, 3), (9, 30, 7), (9, 39, 4), (9, 52, 0), (9, 61, 1), (1, 28, 5), (9, 70, 8), (8, 50, 5), (11, 13, 11), (9, 132, 11), (11, 22, 10)]
def gCon : List (Nat × Nat × Value) := [(9, 348, .long (-1)), (3, 107, .long (-1)), (5, 132, .long (-1)), (13, 314, .long (6148914691236517205)), (13, 316, .long (3689348814741910323)), (13, 318, .long (1085102592571150095)), (12, 265, .int (1431655765)), (12, 266, .int (858993459)), (12, 267, .int (252645135)), (9, 343, .int (1103515245)), (10, 175, .long (7499639)), (10, 185, .long (30064)), (10, 276, .long (7237492)), (10, 260, .long (1852137842)), (10, 262, .long (418363302244)), (10, 264, .long (108187867505765)), (10, 266, .long (108187682958948)), (10, 268, .long (1936024942)), (10, 270, .long (448546567013)), (10, 272, .long (1936026726)), (10, 274, .long (1751477348)), (10, 256, .long (6385252)), (10, 258, .long (28530)), (10, 190, .long (1685026670)), (10, 192, .long (482955846501)), (10, 204, .long (119182682645875)), (10, 209, .long (426836652665)), (10, 215, .long (1885432164)), (10, 217, .long (1919907699)), (10, 312, .long (-1)), (10, 328, .long (24948)), (10, 333, .long (7364985)), (10, 335, .long (1751741299)), (10, 337, .long (1718773093)), (10, 339, .long (495874305132)), (10, 27, .long (6148914691236517205)), (10, 29, .long (3689348814741910323)), (10, 31, .long (1085102592571150095)), (10, 33, .long (72340172838076673)), (10, 427, .int (1000000000)), (10, 472, .int (1103515245)), (4, 30, .ref (1000001)), (4, 112, .ref (1000002)), (4, 110, .ref (1000003)), (0, 38, .ref (1000004)), (0, 62, .ref (1000005))]
def gStr : List String := ["row     up      down    price   leaves  carry   paid    rows    ", "near    ahead   beside  behind  seen    house   self    held    not     ", "and     or      ", "at      ", "pay     hiss    free    still   "]
/-- the kinds of a class's fields: 0 int, 1 long, 2 a reference, 3 boolean -/
def gFt : List (List Nat) := [[2, 2, 2], [2, 2, 2, 2, 2, 2, 0], [2, 2, 2, 2, 0, 1, 1], [0, 0, 0, 0, 3, 1, 2, 2, 2, 2, 2, 2, 2], [2, 2, 0, 0, 3, 3, 0], [2, 2, 0, 0, 0, 1, 1, 1, 1, 1, 1, 1, 3], [2, 0], [2, 0, 0, 0, 0, 0, 0, 0, 0], [2, 2, 2, 2, 2, 2, 2, 0, 0, 0, 0, 0, 0, 0, 1, 1, 1], [2, 2, 2, 2, 2, 2, 2, 2, 2, 0, 0], [0, 2, 0, 0, 0, 0, 2, 2, 2, 0, 0, 0, 0, 0, 0, 1, 1, 1, 0, 0, 0, 0, 0, 2, 2, 2, 0, 0, 0, 2, 3, 0, 2, 2, 2, 2, 1, 1, 1, 1, 1, 1, 0, 0, 0, 3, 2, 0, 0, 2, 2, 2, 0, 1, 2, 3, 1, 1, 1, 0, 0, 2, 2, 0, 0, 2, 2, 2, 2], []]
def gFf : List (List Bool) := [[true, true, true], [true, true, true, true, true, true, false], [true, true, true, true, false, false, false], [false, false, false, false, false, false, true, true, true, true, true, true, true], [true, true, false, false, false, false, false], [true, true, false, false, false, false, false, false, false, false, false, false, false], [true, false], [true, false, false, false, false, false, false, false, false], [true, true, true, true, true, true, true, false, false, false, false, false, false, false, false, false, false], [true, true, true, true, true, true, true, true, true, false, false], [false, true, false, false, false, false, true, true, true, false, false, false, false, false, false, false, false, false, false, false, false, false, false, true, true, true, false, false, false, true, false, false, true, true, true, true, false, false, false, false, false, false, false, false, false, false, true, false, false, true, true, true, false, false, true, false, false, false, false, false, false, true, true, false, false, true, true, true, true], []]
def gM0 : gMT := (yL_law, cL_law, 7, none, 0, 0, 0)
abbrev gMe (mi : Nat) : gMT := gM.getD mi gM0
abbrev gO (mi : Nat) : Nat := (gMe mi).2.2.2.2.1
end
section
theorem gIn {w : Cond} {p : Nat} (h : lw_tbl[p]? = some w) : w ∈ lw_tbl := List.mem_of_getElem? h
def gTx : u_T := fun _ => ("", "", "", false)
def gCl : List vw_C := [(RX0, TX0, 3), (RX1, TX1, 7), (RX2, TX2, 7), (RX3, TX3, 13), (RX4, TX4, 7), (RX5, TX5, 13), (RX6, TX6, 2), (RX7, TX7, 9), (RX8, TX8, 17), (RX9, TX9, 11), (RX10, TX10, 69), ("java/util/NoSuchElementException", gTx, 0)]
abbrev gc (ci : Nat) : vw_C := gCl.getD ci ("", gTx, 0)
def gTy (ci k : Nat) : FieldType := (match ci with | 0 => tyX0 | 1 => tyX1 | 2 => tyX2 | 3 => tyX3 | 4 => tyX4 | 5 => tyX5 | 6 => tyX6 | 7 => tyX7 | 8 => tyX8 | 9 => tyX9 | 10 => tyX10 | _ => fun _ => .int) k
theorem gInBy {big : List Cond} (ws : List Cond) (ps : List Nat) (hp : ws = ps.filterMap (fun i => big[i]?)) : ∀ w ∈ ws, w ∈ big := by
  intro w hw
  rw [hp] at hw
  obtain ⟨i, -, hi⟩ := List.mem_filterMap.mp hw
  exact List.mem_of_getElem? hi
set_option maxRecDepth 20000 in
theorem gWs0 : ∀ w ∈ u_ws RX0 TX0 3, w ∈ lw_tbl := gInBy _ [357, 359, 361] (by decide +kernel)
set_option maxRecDepth 20000 in
theorem gWs1 : ∀ w ∈ u_ws RX1 TX1 7, w ∈ lw_tbl := gInBy _ [439, 441, 443, 445, 447, 449, 451] (by decide +kernel)
set_option maxRecDepth 20000 in
theorem gWs2 : ∀ w ∈ u_ws RX2 TX2 7, w ∈ lw_tbl := gInBy _ [261, 263, 265, 267, 269, 271, 273] (by decide +kernel)
set_option maxRecDepth 20000 in
theorem gWs3 : ∀ w ∈ u_ws RX3 TX3 13, w ∈ lw_tbl := gInBy _ [204, 206, 208, 210, 212, 214, 216, 218, 220, 222, 224, 226, 228] (by decide +kernel)
set_option maxRecDepth 20000 in
theorem gWs4 : ∀ w ∈ u_ws RX4 TX4 7, w ∈ lw_tbl := gInBy _ [333, 335, 337, 339, 341, 343, 345] (by decide +kernel)
set_option maxRecDepth 20000 in
theorem gWs5 : ∀ w ∈ u_ws RX5 TX5 13, w ∈ lw_tbl := gInBy _ [397, 399, 401, 403, 405, 407, 409, 411, 413, 415, 417, 419, 421] (by decide +kernel)
set_option maxRecDepth 20000 in
theorem gWs6 : ∀ w ∈ u_ws RX6 TX6 2, w ∈ lw_tbl := gInBy _ [129, 131] (by decide +kernel)
set_option maxRecDepth 20000 in
theorem gWs7 : ∀ w ∈ u_ws RX7 TX7 9, w ∈ lw_tbl := gInBy _ [301, 303, 305, 307, 309, 311, 313, 315, 317] (by decide +kernel)
set_option maxRecDepth 20000 in
theorem gWs8 : ∀ w ∈ u_ws RX8 TX8 17, w ∈ lw_tbl := gInBy _ [489, 491, 493, 495, 497, 499, 501, 503, 505, 507, 509, 511, 513, 515, 517, 519, 521] (by decide +kernel)
set_option maxRecDepth 20000 in
theorem gWs9 : ∀ w ∈ u_ws RX9 TX9 11, w ∈ lw_tbl := gInBy _ [535, 537, 539, 541, 543, 545, 547, 549, 551, 553, 555] (by decide +kernel)
set_option maxRecDepth 20000 in
theorem gWs10 : ∀ w ∈ u_ws RX10 TX10 69, w ∈ lw_tbl := gInBy _ [1376, 1378, 1380, 1382, 1384, 1386, 1388, 1390, 1392, 1394, 1396, 1398, 1400, 1402, 1404, 1406, 1408, 1410, 1412, 1414, 1416, 1418, 1420, 1422, 1424, 1426, 1428, 1430, 1432, 1434, 1436, 1438, 1440, 1442, 1444, 1446, 1448, 1450, 1452, 1454, 1456, 1458, 1460, 1462, 1464, 1466, 1468, 1470, 1472, 1474, 1476, 1478, 1480, 1482, 1484, 1486, 1488, 1490, 1492, 1494, 1496, 1498, 1500, 1502, 1504, 1506, 1508, 1510, 1512] (by decide +kernel)
def gOkC (ci : Nat) : Prop := (∀ w ∈ u_ws (gc ci).1 (gc ci).2.1 (gc ci).2.2, w ∈ lw_tbl) ∧ (∀ k, k < (gc ci).2.2 → parseFieldDescriptor ((gc ci).2.1 k).2.2.1 = some (gTy ci k)) ∧ (∀ a, a < (gc ci).2.2 → ∀ b, b < (gc ci).2.2 → a ≠ b → ((gc ci).2.1 a).2.1 ≠ ((gc ci).2.1 b).2.1) ∧ (gFt.getD ci []).length = (gc ci).2.2 ∧ (∀ k, k < (gc ci).2.2 → ((gc ci).2.1 k).2.2.2 = (gFf.getD ci []).getD k true ∧ (gFf.getD ci []).getD k false = (gFf.getD ci []).getD k true) ∧ (∀ k, k < (gc ci).2.2 → ((gFt.getD ci []).getD k 9 = 0 ∧ gTy ci k = .int) ∨ ((gFt.getD ci []).getD k 9 = 1 ∧ gTy ci k = .long) ∨ ((gFt.getD ci []).getD k 9 = 3 ∧ gTy ci k = .boolean) ∨ ((gFt.getD ci []).getD k 9 = 2 ∧ ((∃ c, gTy ci k = .object c) ∨ ∃ t, gTy ci k = .array t))) ∧ (∀ k, k < (gc ci).2.2 → ((gc ci).2.1 k).1 = (gc ci).1) ∧ (Cond.instantiable (gc ci).1 (gc ci).2.2 ∈ lw_tbl ∨ ci = 11) ∧ Cond.initialized (gc ci).1 ∈ lw_tbl ∧ gCl[ci]? = some (gc ci)
def gRefT : FieldType → Bool
  | .object _ => true
  | .array _ => true
  | _ => false
theorem gRefT_ok {t : FieldType} (h : gRefT t = true) : (∃ c, t = .object c) ∨ ∃ u, t = .array u := by
  cases t <;> simp [gRefT] at h ⊢
def gKd (a : Nat) (t : FieldType) : Bool := (a == 0 && t == .int) || (a == 1 && t == .long) || (a == 3 && t == .boolean) || (a == 2 && gRefT t)
theorem gKd_ok {a : Nat} {t : FieldType} (h : gKd a t = true) : (a = 0 ∧ t = .int) ∨ (a = 1 ∧ t = .long) ∨ (a = 3 ∧ t = .boolean) ∨ (a = 2 ∧ ((∃ c, t = .object c) ∨ ∃ u, t = .array u)) := by
  simp only [gKd, Bool.or_eq_true, Bool.and_eq_true, beq_iff_eq] at h
  rcases h with ((h | h) | h) | h
  · exact Or.inl h
  · exact Or.inr (Or.inl h)
  · exact Or.inr (Or.inr (Or.inl h))
  · exact Or.inr (Or.inr (Or.inr ⟨h.1, gRefT_ok h.2⟩))
set_option maxRecDepth 20000 in
theorem gOk0 : gOkC 0 := ⟨gWs0, tyX0_ok, nmX0, by decide +kernel, by decide +kernel, fun k hk => gKd_ok ((by decide +kernel : ∀ k, k < 3 → gKd ((gFt.getD 0 []).getD k 9) (gTy 0 k) = true) k hk), by decide +kernel, Or.inl (gIn (p := 349) (by decide +kernel)), gIn (p := 92) (by decide +kernel), rfl⟩
set_option maxRecDepth 20000 in
theorem gOk1 : gOkC 1 := ⟨gWs1, tyX1_ok, nmX1, by decide +kernel, by decide +kernel, fun k hk => gKd_ok ((by decide +kernel : ∀ k, k < 7 → gKd ((gFt.getD 1 []).getD k 9) (gTy 1 k) = true) k hk), by decide +kernel, Or.inl (gIn (p := 365) (by decide +kernel)), gIn (p := 93) (by decide +kernel), rfl⟩
set_option maxRecDepth 20000 in
theorem gOk2 : gOkC 2 := ⟨gWs2, tyX2_ok, nmX2, by decide +kernel, by decide +kernel, fun k hk => gKd_ok ((by decide +kernel : ∀ k, k < 7 → gKd ((gFt.getD 2 []).getD k 9) (gTy 2 k) = true) k hk), by decide +kernel, Or.inl (gIn (p := 136) (by decide +kernel)), gIn (p := 87) (by decide +kernel), rfl⟩
set_option maxRecDepth 20000 in
theorem gOk3 : gOkC 3 := ⟨gWs3, tyX3_ok, nmX3, by decide +kernel, by decide +kernel, fun k hk => gKd_ok ((by decide +kernel : ∀ k, k < 13 → gKd ((gFt.getD 3 []).getD k 9) (gTy 3 k) = true) k hk), by decide +kernel, Or.inl (gIn (p := 142) (by decide +kernel)), gIn (p := 88) (by decide +kernel), rfl⟩
set_option maxRecDepth 20000 in
theorem gOk4 : gOkC 4 := ⟨gWs4, tyX4_ok, nmX4, by decide +kernel, by decide +kernel, fun k hk => gKd_ok ((by decide +kernel : ∀ k, k < 7 → gKd ((gFt.getD 4 []).getD k 9) (gTy 4 k) = true) k hk), by decide +kernel, Or.inl (gIn (p := 321) (by decide +kernel)), gIn (p := 91) (by decide +kernel), rfl⟩
set_option maxRecDepth 20000 in
theorem gOk5 : gOkC 5 := ⟨gWs5, tyX5_ok, nmX5, by decide +kernel, by decide +kernel, fun k hk => gKd_ok ((by decide +kernel : ∀ k, k < 13 → gKd ((gFt.getD 5 []).getD k 9) (gTy 5 k) = true) k hk), by decide +kernel, Or.inl (gIn (p := 371) (by decide +kernel)), gIn (p := 94) (by decide +kernel), rfl⟩
set_option maxRecDepth 20000 in
theorem gOk6 : gOkC 6 := ⟨gWs6, tyX6_ok, nmX6, by decide +kernel, by decide +kernel, fun k hk => gKd_ok ((by decide +kernel : ∀ k, k < 2 → gKd ((gFt.getD 6 []).getD k 9) (gTy 6 k) = true) k hk), by decide +kernel, Or.inl (gIn (p := 118) (by decide +kernel)), gIn (p := 86) (by decide +kernel), rfl⟩
set_option maxRecDepth 20000 in
theorem gOk7 : gOkC 7 := ⟨gWs7, tyX7_ok, nmX7, by decide +kernel, by decide +kernel, fun k hk => gKd_ok ((by decide +kernel : ∀ k, k < 9 → gKd ((gFt.getD 7 []).getD k 9) (gTy 7 k) = true) k hk), by decide +kernel, Or.inl (gIn (p := 278) (by decide +kernel)), gIn (p := 90) (by decide +kernel), rfl⟩
set_option maxRecDepth 20000 in
theorem gOk8 : gOkC 8 := ⟨gWs8, tyX8_ok, nmX8, by decide +kernel, by decide +kernel, fun k hk => gKd_ok ((by decide +kernel : ∀ k, k < 17 → gKd ((gFt.getD 8 []).getD k 9) (gTy 8 k) = true) k hk), by decide +kernel, Or.inl (gIn (p := 455) (by decide +kernel)), gIn (p := 95) (by decide +kernel), rfl⟩
set_option maxRecDepth 20000 in
theorem gOk9 : gOkC 9 := ⟨gWs9, tyX9_ok, nmX9, by decide +kernel, by decide +kernel, fun k hk => gKd_ok ((by decide +kernel : ∀ k, k < 11 → gKd ((gFt.getD 9 []).getD k 9) (gTy 9 k) = true) k hk), by decide +kernel, Or.inl (gIn (p := 110) (by decide +kernel)), gIn (p := 85) (by decide +kernel), rfl⟩
set_option maxRecDepth 20000 in
theorem gOk10 : gOkC 10 := ⟨gWs10, tyX10_ok, nmX10, by decide +kernel, by decide +kernel, fun k hk => gKd_ok ((by decide +kernel : ∀ k, k < 69 → gKd ((gFt.getD 10 []).getD k 9) (gTy 10 k) = true) k hk), by decide +kernel, Or.inl (gIn (p := 1292) (by decide +kernel)), gIn (p := 96) (by decide +kernel), rfl⟩
theorem gOkAll : ∀ ci, ci < 11 → gOkC ci
  | 0, _ => gOk0
  | 1, _ => gOk1
  | 2, _ => gOk2
  | 3, _ => gOk3
  | 4, _ => gOk4
  | 5, _ => gOk5
  | 6, _ => gOk6
  | 7, _ => gOk7
  | 8, _ => gOk8
  | 9, _ => gOk9
  | 10, _ => gOk10
  | n + 11, h => absurd h (by omega)
def gFp : List Nat := [123, 124, 125, 126, 127, 128, 157, 158, 159, 160, 161, 162, 163, 164, 165, 166, 167, 168, 169, 170, 171, 172, 173, 174, 175, 176, 177, 178, 179, 180, 181, 182, 183, 184, 185, 186, 187, 188, 189, 190, 191, 192, 193, 194, 195, 196, 197, 198, 199, 200, 201, 202, 203, 232, 233, 234, 235, 236, 237, 238, 239, 240, 241, 242, 243, 244, 245, 246, 247, 248, 249, 250, 251, 252, 253, 254, 255, 256, 257, 258, 259, 260, 283, 284, 285, 286, 287, 288, 289, 290, 291, 292, 293, 294, 295, 296, 297, 298, 299, 300, 326, 327, 328, 329, 330, 331, 332, 354, 355, 356, 376, 377, 378, 379, 380, 381, 382, 383, 384, 385, 386, 387, 388, 389, 390, 391, 392, 393, 394, 395, 396, 424, 425, 426, 427, 428, 429, 430, 431, 432, 433, 434, 435, 436, 437, 438, 462, 463, 464, 465, 466, 467, 468, 469, 470, 471, 472, 473, 474, 475, 476, 477, 478, 479, 480, 481, 482, 483, 484, 485, 486, 487, 488, 524, 525, 526, 527, 528, 529, 530, 531, 532, 533, 534, 1307, 1308, 1309, 1310, 1311, 1312, 1313, 1314, 1315, 1316, 1317, 1318, 1319, 1320, 1321, 1322, 1323, 1324, 1325, 1326, 1327, 1328, 1329, 1330, 1331, 1332, 1333, 1334, 1335, 1336, 1337, 1338, 1339, 1340, 1341, 1342, 1343, 1344, 1345, 1346, 1347, 1348, 1349, 1350, 1351, 1352, 1353, 1354, 1355, 1356, 1357, 1358, 1359, 1360, 1361, 1362, 1363, 1364, 1365, 1366, 1367, 1368, 1369, 1370, 1371, 1372, 1373, 1374, 1375]
def gFck (e : (Nat × Nat × Nat × Nat) × Nat) : Bool := decide (lw_tbl[e.2]? = some (Cond.fieldLink (gOwn.getD e.1.1 "") e.1.2.1 ((gc e.1.2.2.1).2.1 e.1.2.2.2).1 ((gc e.1.2.2.1).2.1 e.1.2.2.2).2.1 ((gc e.1.2.2.1).2.1 e.1.2.2.2).2.2.1)) && decide (e.1.2.2.2 < (gc e.1.2.2.1).2.2) && decide (e.1.2.2.1 < 11)
set_option maxRecDepth 100000 in
theorem gF_len : gF.length = gFp.length := by decide +kernel
set_option maxRecDepth 100000 in
theorem gF_ck : (gF.zip gFp).all gFck = true := by decide +kernel
def gCp : List Nat := [111, 114, 119, 122, 137, 140, 143, 146, 147, 151, 154, 279, 282, 322, 325, 350, 353, 366, 369, 372, 375, 456, 459, 461, 558, 562, 566, 570, 574, 578, 579, 583, 587, 590, 594, 598, 603, 607, 617, 621, 659, 663, 667, 671, 672, 676, 677, 680, 684, 688, 693, 697, 698, 702, 706, 711, 715, 716, 720, 724, 728, 732, 736, 740, 744, 748, 752, 756, 760, 764, 765, 769, 773, 777, 780, 784, 785, 790, 794, 798, 802, 803, 804, 808, 812, 816, 821, 822, 823, 824, 826, 830, 831, 832, 833, 834, 838, 841, 845, 849, 853, 857, 858, 859, 863, 864, 868, 872, 877, 881, 885, 889, 893, 897, 901, 905, 911, 915, 916, 917, 918, 922, 925, 929, 933, 937, 941, 945, 949, 950, 954, 955, 959, 963, 964, 968, 972, 976, 977, 981, 985, 986, 990, 994, 998, 1002, 1006, 1010, 1011, 1012, 1016, 1020, 1024, 1028, 1034, 1038, 1039, 1043, 1047, 1051, 1055, 1059, 1063, 1067, 1071, 1075, 1079, 1083, 1084, 1088, 1089, 1090, 1094, 1098, 1102, 1103, 1107, 1108, 1112, 1113, 1114, 1118, 1122, 1126, 1130, 1134, 1138, 1142, 1146, 1147, 1151, 1152, 1156, 1157, 1158, 1163, 1166, 1170, 1174, 1178, 1182, 1186, 1190, 1233, 1255, 1259, 1262, 1266, 1269, 1273, 1274, 1277, 1281, 1285, 1289, 1294, 1299, 1302, 1303, 1516, 1520, 1524, 1528, 1532, 1535, 1538, 1543, 1547, 1551, 1555, 1559, 1563, 1567, 1571, 1576, 1588, 1592, 1596, 1600, 1604, 1608, 1612, 1615, 1623, 1627, 1632, 1638, 1642, 1646, 1650, 1654, 1658, 1662, 1665, 1669, 1674, 1678, 1682, 1691, 1695, 1699, 1703, 1706, 1710, 1714, 1718, 1722, 1726, 1730, 1734, 1738, 1742, 1749, 1753, 1757, 1761, 1765, 1769, 1773, 1777, 1781, 1785, 1789, 1793, 1797, 1801, 1805, 1810, 1814, 1818, 1822, 1826, 1830, 1833, 1837, 1841, 1845, 1849, 1853, 1857, 1861, 1865, 1869, 1873, 1877, 1881, 1885, 1889, 1893, 1897, 1901, 1906, 1910, 1914]
def gSpY : Nat → MethodName
  | 1000 => objectInit
  | 1001 => arraycopyName
  | 1002 => yJ0_length_8abf5
  | 1003 => yJ0_charAt_5068e
  | 1004 => ⟨"java/util/NoSuchElementException", "<init>", "()V"⟩
  | 1005 => Lib.Math.max.name
  | 1006 => Lib.Math.min.name
  | 1007 => Lib.Math.abs.name
  | mj => (gMe mj).1
def gCck (e : (Nat × Nat × Nat × Nat) × Nat) : Bool := decide (lw_tbl[e.2]? = some (if e.1.2.2.2 = 0 then Cond.methodLink (gOwn.getD e.1.1 "") e.1.2.1 (gSpY e.1.2.2.1) else Cond.methodLinkNest (gOwn.getD e.1.1 "") e.1.2.1 (gSpY e.1.2.2.1) "HouseClaps")) && (decide (e.1.2.2.1 < 253) || decide (1000 ≤ e.1.2.2.1)) && (decide (e.1.2.2.2 = 0) || decide (e.1.2.2.2 = 1)) && !(decide (e.1.2.2.1 = 0))
set_option maxRecDepth 100000 in
theorem gC_len : gCall.length = gCp.length := by decide +kernel
set_option maxRecDepth 100000 in
theorem gC_ck : (gCall.zip gCp).all gCck = true := by decide +kernel
def gNp : List Nat := [109, 117, 135, 141, 277, 320, 348, 364, 370, 454, 460, 1189, 1194, 1298]
def gNck (e : (Nat × Nat × Nat) × Nat) : Bool := decide (lw_tbl[e.2]? = some (Cond.classLink (gOwn.getD e.1.1 "") e.1.2.1 (gc e.1.2.2).1)) && decide (e.1.2.2 < 12)
theorem gN_len : gNew.length = gNp.length := by decide +kernel
set_option maxRecDepth 100000 in
theorem gN_ck : (gNew.zip gNp).all gNck = true := by decide +kernel
def gKp : List Nat := [747, 768, 876, 908, 909, 910, 1031, 1032, 1033, 1162, 1542, 1562, 1575, 1580, 1581, 1582, 1583, 1584, 1585, 1586, 1587, 1619, 1620, 1621, 1622, 1630, 1631, 1636, 1637, 1673, 1686, 1687, 1688, 1689, 1690, 1745, 1746, 1747, 1748, 1809, 1905, 602, 692, 710, 820, 825]
def gKck (e : (Nat × Nat × Value) × Nat) : Bool := match e.1.2.2 with
  | .int v => decide (lw_tbl[e.2]? = some (Cond.constant (gOwn.getD e.1.1 "") e.1.2.1 v))
  | .long v => decide (lw_tbl[e.2]? = some (Cond.constantLong (gOwn.getD e.1.1 "") e.1.2.1 v))
  | .ref v => decide (lw_tbl[e.2]? = some (Cond.stringRef (gOwn.getD e.1.1 "") e.1.2.1 (gStr.getD (v - 1000001) ""))) && decide (1000001 ≤ v) && decide (v < 1000006)
  | _ => false
theorem gK_len : gCon.length = gKp.length := by decide +kernel
set_option maxRecDepth 100000 in
theorem gK_ck : (gCon.zip gKp).all gKck = true := by decide +kernel
end
section
def gLw (mi : Nat) : Bool := Nat.beq mi 0 || Nat.beq mi 246 || Nat.beq mi 247 || Nat.beq mi 248
theorem gTb1 {w : Cond} {p : Nat} (h : tables_1_1[p]? = some w) : w ∈ lw_tbl := List.mem_append_right _ (List.mem_append_left _ (List.mem_of_getElem? h))
theorem gTb2 {w : Cond} {p : Nat} (h : tables_1_2[p]? = some w) : w ∈ lw_tbl := List.mem_append_right _ (List.mem_append_right _ (List.mem_append_left _ (List.mem_of_getElem? h)))
theorem gTb3 {w : Cond} {p : Nat} (h : tables_1_3[p]? = some w) : w ∈ lw_tbl := List.mem_append_right _ (List.mem_append_right _ (List.mem_append_right _ (List.mem_append_left _ (List.mem_of_getElem? h))))
theorem gTb4 {w : Cond} {p : Nat} (h : tables_1_4[p]? = some w) : w ∈ lw_tbl := List.mem_append_right _ (List.mem_append_right _ (List.mem_append_right _ (List.mem_append_right _ (List.mem_append_left _ (List.mem_of_getElem? h)))))
theorem gTb5 {w : Cond} {p : Nat} (h : tables_1_5[p]? = some w) : w ∈ lw_tbl := List.mem_append_right _ (List.mem_append_right _ (List.mem_append_right _ (List.mem_append_right _ (List.mem_append_right _ (List.mem_append_left _ (List.mem_of_getElem? h))))))
theorem gTb6 {w : Cond} {p : Nat} (h : tables_1_6[p]? = some w) : w ∈ lw_tbl := List.mem_append_right _ (List.mem_append_right _ (List.mem_append_right _ (List.mem_append_right _ (List.mem_append_right _ (List.mem_append_right _ (List.mem_append_left _ (List.mem_of_getElem? h)))))))
theorem gTb7 {w : Cond} {p : Nat} (h : tables_1_7[p]? = some w) : w ∈ lw_tbl := List.mem_append_right _ (List.mem_append_right _ (List.mem_append_right _ (List.mem_append_right _ (List.mem_append_right _ (List.mem_append_right _ (List.mem_append_right _ (List.mem_append_left _ (List.mem_of_getElem? h))))))))
theorem gTb8 {w : Cond} {p : Nat} (h : tables_1_8[p]? = some w) : w ∈ lw_tbl := List.mem_append_right _ (List.mem_append_right _ (List.mem_append_right _ (List.mem_append_right _ (List.mem_append_right _ (List.mem_append_right _ (List.mem_append_right _ (List.mem_append_right _ (List.mem_of_getElem? h))))))))
theorem gSl {w : Cond} {p : Nat} (h : (k2_sels lw_privs)[p]? = some w) : w ∈ lw_tbl := List.mem_append_left _ (List.mem_of_getElem? h)
def gMOK (mi : Nat) : Prop := Cond.code (gMe mi).1 (gMe mi).2.1 (gMe mi).2.2.1 (gMe mi).2.2.2.1 ∈ lw_tbl ∧ Cond.initialized (gMe mi).1.cls ∈ lw_tbl ∧ ((gMe mi).2.2.2.2.2.2 = 0 → Cond.static (gMe mi).1 ∈ lw_tbl) ∧ (¬ (gMe mi).2.2.2.2.2.2 = 0 → Cond.instanceMethod (gMe mi).1 ∈ lw_tbl) ∧ ((gMe mi).2.2.2.2.2.2 = 1 → Cond.selects (gMe mi).1.cls (gMe mi).1 (gMe mi).1 ∈ lw_tbl ∧ (gMe mi).2.2.2.2.1 < 11) ∧ ((gMe mi).2.2.2.2.2.2 = 2 → (gMe mi).1.name = "<init>" ∧ (gMe mi).2.2.2.1 = none) ∧ ((gMe mi).1.cls ≠ "java/lang/invoke/MethodHandle" ∧ (gMe mi).1.cls ≠ "java/lang/invoke/VarHandle" ∧ (parseMethodDescriptor (gMe mi).1.desc).map (fun d => d.parameters.length) = some (gMe mi).2.2.2.2.2.1) ∧ plainName (gMe mi).1.cls = true ∧ (gMe mi).1.cls = gOwn.getD (gMe mi).2.2.2.2.1 "" ∧ (gMe mi).2.2.1 ≤ 40
theorem gMk1 : gMOK 1 := ⟨gTb2 (p := 28) rfl, gTb1 (p := 8) rfl, fun h => absurd h (by decide), fun _ => gTb2 (p := 27) rfl, fun h => absurd h (by decide), fun _ => ⟨rfl, rfl⟩, by decide +kernel, by decide +kernel, by decide +kernel, by decide +kernel⟩
theorem gMk2 : gMOK 2 := ⟨gTb4 (p := 11) rfl, gTb1 (p := 8) rfl, fun h => absurd h (by decide), fun _ => gTb4 (p := 9) rfl, fun _ => ⟨gTb4 (p := 10) rfl, by decide⟩, fun h => absurd h (by decide), by decide +kernel, by decide +kernel, by decide +kernel, by decide +kernel⟩
theorem gMk3 : gMOK 3 := ⟨gTb4 (p := 15) rfl, gTb1 (p := 8) rfl, fun h => absurd h (by decide), fun _ => gTb4 (p := 14) rfl, fun _ => ⟨gSl (p := 14) rfl, by decide⟩, fun h => absurd h (by decide), by decide +kernel, by decide +kernel, by decide +kernel, by decide +kernel⟩
theorem gMk4 : gMOK 4 := ⟨gTb4 (p := 25) rfl, gTb1 (p := 8) rfl, fun h => absurd h (by decide), fun _ => gTb4 (p := 24) rfl, fun _ => ⟨gSl (p := 15) rfl, by decide⟩, fun h => absurd h (by decide), by decide +kernel, by decide +kernel, by decide +kernel, by decide +kernel⟩
theorem gMk5 : gMOK 5 := ⟨gTb2 (p := 44) rfl, gTb1 (p := 9) rfl, fun h => absurd h (by decide), fun _ => gTb2 (p := 43) rfl, fun h => absurd h (by decide), fun _ => ⟨rfl, rfl⟩, by decide +kernel, by decide +kernel, by decide +kernel, by decide +kernel⟩
theorem gMk6 : gMOK 6 := ⟨gTb3 (p := 224) rfl, gTb1 (p := 9) rfl, fun h => absurd h (by decide), fun _ => gTb3 (p := 222) rfl, fun _ => ⟨gTb3 (p := 223) rfl, by decide⟩, fun h => absurd h (by decide), by decide +kernel, by decide +kernel, by decide +kernel, by decide +kernel⟩
theorem gMk7 : gMOK 7 := ⟨gTb4 (p := 40) rfl, gTb1 (p := 9) rfl, fun h => absurd h (by decide), fun _ => gTb4 (p := 38) rfl, fun _ => ⟨gTb4 (p := 39) rfl, by decide⟩, fun h => absurd h (by decide), by decide +kernel, by decide +kernel, by decide +kernel, by decide +kernel⟩
theorem gMk8 : gMOK 8 := ⟨gTb4 (p := 76) rfl, gTb1 (p := 9) rfl, fun h => absurd h (by decide), fun _ => gTb4 (p := 75) rfl, fun _ => ⟨gSl (p := 19) rfl, by decide⟩, fun h => absurd h (by decide), by decide +kernel, by decide +kernel, by decide +kernel, by decide +kernel⟩
theorem gMk9 : gMOK 9 := ⟨gTb4 (p := 158) rfl, gTb1 (p := 9) rfl, fun h => absurd h (by decide), fun _ => gTb4 (p := 156) rfl, fun _ => ⟨gTb4 (p := 157) rfl, by decide⟩, fun h => absurd h (by decide), by decide +kernel, by decide +kernel, by decide +kernel, by decide +kernel⟩
theorem gMk10 : gMOK 10 := ⟨gTb4 (p := 193) rfl, gTb1 (p := 9) rfl, fun h => absurd h (by decide), fun _ => gTb4 (p := 191) rfl, fun _ => ⟨gTb4 (p := 192) rfl, by decide⟩, fun h => absurd h (by decide), by decide +kernel, by decide +kernel, by decide +kernel, by decide +kernel⟩
theorem gMk11 : gMOK 11 := ⟨gTb4 (p := 180) rfl, gTb1 (p := 9) rfl, fun h => absurd h (by decide), fun _ => gTb4 (p := 178) rfl, fun _ => ⟨gTb4 (p := 179) rfl, by decide⟩, fun h => absurd h (by decide), by decide +kernel, by decide +kernel, by decide +kernel, by decide +kernel⟩
theorem gMk12 : gMOK 12 := ⟨gTb4 (p := 185) rfl, gTb1 (p := 9) rfl, fun h => absurd h (by decide), fun _ => gTb4 (p := 184) rfl, fun _ => ⟨gSl (p := 27) rfl, by decide⟩, fun h => absurd h (by decide), by decide +kernel, by decide +kernel, by decide +kernel, by decide +kernel⟩
theorem gMk13 : gMOK 13 := ⟨gTb1 (p := 55) rfl, gTb1 (p := 3) rfl, fun h => absurd h (by decide), fun _ => gTb1 (p := 54) rfl, fun h => absurd h (by decide), fun _ => ⟨rfl, rfl⟩, by decide +kernel, by decide +kernel, by decide +kernel, by decide +kernel⟩
theorem gMk14 : gMOK 14 := ⟨gTb3 (p := 13) rfl, gTb1 (p := 3) rfl, fun h => absurd h (by decide), fun _ => gTb3 (p := 11) rfl, fun _ => ⟨gTb3 (p := 12) rfl, by decide⟩, fun h => absurd h (by decide), by decide +kernel, by decide +kernel, by decide +kernel, by decide +kernel⟩
theorem gMk15 : gMOK 15 := ⟨gTb3 (p := 208) rfl, gTb1 (p := 3) rfl, fun h => absurd h (by decide), fun _ => gTb3 (p := 206) rfl, fun _ => ⟨gTb3 (p := 207) rfl, by decide⟩, fun h => absurd h (by decide), by decide +kernel, by decide +kernel, by decide +kernel, by decide +kernel⟩
theorem gMk16 : gMOK 16 := ⟨gTb3 (p := 219) rfl, gTb1 (p := 3) rfl, fun h => absurd h (by decide), fun _ => gTb3 (p := 217) rfl, fun _ => ⟨gTb3 (p := 218) rfl, by decide⟩, fun h => absurd h (by decide), by decide +kernel, by decide +kernel, by decide +kernel, by decide +kernel⟩
theorem gMk17 : gMOK 17 := ⟨gTb4 (p := 48) rfl, gTb1 (p := 3) rfl, fun h => absurd h (by decide), fun _ => gTb4 (p := 46) rfl, fun _ => ⟨gTb4 (p := 47) rfl, by decide⟩, fun h => absurd h (by decide), by decide +kernel, by decide +kernel, by decide +kernel, by decide +kernel⟩
theorem gMk18 : gMOK 18 := ⟨gTb4 (p := 171) rfl, gTb1 (p := 3) rfl, fun h => absurd h (by decide), fun _ => gTb4 (p := 169) rfl, fun _ => ⟨gTb4 (p := 170) rfl, by decide⟩, fun h => absurd h (by decide), by decide +kernel, by decide +kernel, by decide +kernel, by decide +kernel⟩
theorem gMk19 : gMOK 19 := ⟨gTb4 (p := 176) rfl, gTb1 (p := 3) rfl, fun h => absurd h (by decide), fun _ => gTb4 (p := 175) rfl, fun _ => ⟨gSl (p := 26) rfl, by decide⟩, fun h => absurd h (by decide), by decide +kernel, by decide +kernel, by decide +kernel, by decide +kernel⟩
theorem gMk20 : gMOK 20 := ⟨gTb1 (p := 61) rfl, gTb1 (p := 4) rfl, fun h => absurd h (by decide), fun _ => gTb1 (p := 60) rfl, fun h => absurd h (by decide), fun _ => ⟨rfl, rfl⟩, by decide +kernel, by decide +kernel, by decide +kernel, by decide +kernel⟩
theorem gMk21 : gMOK 21 := ⟨gTb1 (p := 66) rfl, gTb1 (p := 4) rfl, fun h => absurd h (by decide), fun _ => gTb1 (p := 64) rfl, fun _ => ⟨gTb1 (p := 65) rfl, by decide⟩, fun h => absurd h (by decide), by decide +kernel, by decide +kernel, by decide +kernel, by decide +kernel⟩
theorem gMk22 : gMOK 22 := ⟨gTb3 (p := 212) rfl, gTb1 (p := 4) rfl, fun h => absurd h (by decide), fun _ => gTb3 (p := 210) rfl, fun _ => ⟨gTb3 (p := 211) rfl, by decide⟩, fun h => absurd h (by decide), by decide +kernel, by decide +kernel, by decide +kernel, by decide +kernel⟩
theorem gMk23 : gMOK 23 := ⟨gTb3 (p := 175) rfl, gTb1 (p := 4) rfl, fun h => absurd h (by decide), fun _ => gTb3 (p := 173) rfl, fun _ => ⟨gTb3 (p := 174) rfl, by decide⟩, fun h => absurd h (by decide), by decide +kernel, by decide +kernel, by decide +kernel, by decide +kernel⟩
theorem gMk24 : gMOK 24 := ⟨gTb3 (p := 187) rfl, gTb1 (p := 4) rfl, fun h => absurd h (by decide), fun _ => gTb3 (p := 185) rfl, fun _ => ⟨gTb3 (p := 186) rfl, by decide⟩, fun h => absurd h (by decide), by decide +kernel, by decide +kernel, by decide +kernel, by decide +kernel⟩
theorem gMk25 : gMOK 25 := ⟨gTb3 (p := 195) rfl, gTb1 (p := 4) rfl, fun h => absurd h (by decide), fun _ => gTb3 (p := 193) rfl, fun _ => ⟨gTb3 (p := 194) rfl, by decide⟩, fun h => absurd h (by decide), by decide +kernel, by decide +kernel, by decide +kernel, by decide +kernel⟩
theorem gMk26 : gMOK 26 := ⟨gTb4 (p := 223) rfl, gTb1 (p := 4) rfl, fun h => absurd h (by decide), fun _ => gTb4 (p := 221) rfl, fun _ => ⟨gTb4 (p := 222) rfl, by decide⟩, fun h => absurd h (by decide), by decide +kernel, by decide +kernel, by decide +kernel, by decide +kernel⟩
theorem gMk27 : gMOK 27 := ⟨gTb5 (p := 214) rfl, gTb1 (p := 4) rfl, fun h => absurd h (by decide), fun _ => gTb5 (p := 212) rfl, fun _ => ⟨gTb5 (p := 213) rfl, by decide⟩, fun h => absurd h (by decide), by decide +kernel, by decide +kernel, by decide +kernel, by decide +kernel⟩
theorem gMk28 : gMOK 28 := ⟨gTb4 (p := 67) rfl, gTb1 (p := 4) rfl, fun h => absurd h (by decide), fun _ => gTb4 (p := 65) rfl, fun _ => ⟨gTb4 (p := 66) rfl, by decide⟩, fun h => absurd h (by decide), by decide +kernel, by decide +kernel, by decide +kernel, by decide +kernel⟩
theorem gMk29 : gMOK 29 := ⟨gTb4 (p := 52) rfl, gTb1 (p := 4) rfl, fun h => absurd h (by decide), fun _ => gTb4 (p := 50) rfl, fun _ => ⟨gTb4 (p := 51) rfl, by decide⟩, fun h => absurd h (by decide), by decide +kernel, by decide +kernel, by decide +kernel, by decide +kernel⟩
theorem gMk30 : gMOK 30 := ⟨gTb5 (p := 97) rfl, gTb1 (p := 4) rfl, fun h => absurd h (by decide), fun _ => gTb5 (p := 95) rfl, fun _ => ⟨gTb5 (p := 96) rfl, by decide⟩, fun h => absurd h (by decide), by decide +kernel, by decide +kernel, by decide +kernel, by decide +kernel⟩
theorem gMk31 : gMOK 31 := ⟨gTb3 (p := 179) rfl, gTb1 (p := 4) rfl, fun h => absurd h (by decide), fun _ => gTb3 (p := 178) rfl, fun _ => ⟨gSl (p := 11) rfl, by decide⟩, fun h => absurd h (by decide), by decide +kernel, by decide +kernel, by decide +kernel, by decide +kernel⟩
theorem gMk32 : gMOK 32 := ⟨gTb3 (p := 171) rfl, gTb1 (p := 4) rfl, fun h => absurd h (by decide), fun _ => gTb3 (p := 169) rfl, fun _ => ⟨gTb3 (p := 170) rfl, by decide⟩, fun h => absurd h (by decide), by decide +kernel, by decide +kernel, by decide +kernel, by decide +kernel⟩
theorem gMk33 : gMOK 33 := ⟨gTb3 (p := 191) rfl, gTb1 (p := 4) rfl, fun h => absurd h (by decide), fun _ => gTb3 (p := 190) rfl, fun _ => ⟨gSl (p := 12) rfl, by decide⟩, fun h => absurd h (by decide), by decide +kernel, by decide +kernel, by decide +kernel, by decide +kernel⟩
theorem gMk34 : gMOK 34 := ⟨gTb3 (p := 199) rfl, gTb1 (p := 4) rfl, fun h => absurd h (by decide), fun _ => gTb3 (p := 198) rfl, fun _ => ⟨gSl (p := 13) rfl, by decide⟩, fun h => absurd h (by decide), by decide +kernel, by decide +kernel, by decide +kernel, by decide +kernel⟩
theorem gMk35 : gMOK 35 := ⟨gTb2 (p := 0) rfl, gTb1 (p := 7) rfl, fun h => absurd h (by decide), fun _ => gTb1 (p := 239) rfl, fun h => absurd h (by decide), fun _ => ⟨rfl, rfl⟩, by decide +kernel, by decide +kernel, by decide +kernel, by decide +kernel⟩
theorem gMk36 : gMOK 36 := ⟨gTb3 (p := 33) rfl, gTb1 (p := 7) rfl, fun h => absurd h (by decide), fun _ => gTb3 (p := 31) rfl, fun _ => ⟨gTb3 (p := 32) rfl, by decide⟩, fun h => absurd h (by decide), by decide +kernel, by decide +kernel, by decide +kernel, by decide +kernel⟩
theorem gMk37 : gMOK 37 := ⟨gTb3 (p := 37) rfl, gTb1 (p := 7) rfl, fun h => absurd h (by decide), fun _ => gTb3 (p := 35) rfl, fun _ => ⟨gTb3 (p := 36) rfl, by decide⟩, fun h => absurd h (by decide), by decide +kernel, by decide +kernel, by decide +kernel, by decide +kernel⟩
theorem gMk38 : gMOK 38 := ⟨gTb3 (p := 102) rfl, gTb1 (p := 7) rfl, fun h => absurd h (by decide), fun _ => gTb3 (p := 101) rfl, fun _ => ⟨gSl (p := 1) rfl, by decide⟩, fun h => absurd h (by decide), by decide +kernel, by decide +kernel, by decide +kernel, by decide +kernel⟩
theorem gMk39 : gMOK 39 := ⟨gTb3 (p := 115) rfl, gTb1 (p := 7) rfl, fun _ => gTb3 (p := 114) rfl, fun h => absurd rfl h, fun h => absurd h (by decide), fun h => absurd h (by decide), by decide +kernel, by decide +kernel, by decide +kernel, by decide +kernel⟩
theorem gMk40 : gMOK 40 := ⟨gTb3 (p := 119) rfl, gTb1 (p := 7) rfl, fun h => absurd h (by decide), fun _ => gTb3 (p := 118) rfl, fun _ => ⟨gSl (p := 2) rfl, by decide⟩, fun h => absurd h (by decide), by decide +kernel, by decide +kernel, by decide +kernel, by decide +kernel⟩
theorem gMk41 : gMOK 41 := ⟨gTb3 (p := 123) rfl, gTb1 (p := 7) rfl, fun h => absurd h (by decide), fun _ => gTb3 (p := 122) rfl, fun _ => ⟨gSl (p := 3) rfl, by decide⟩, fun h => absurd h (by decide), by decide +kernel, by decide +kernel, by decide +kernel, by decide +kernel⟩
theorem gMk42 : gMOK 42 := ⟨gTb3 (p := 127) rfl, gTb1 (p := 7) rfl, fun h => absurd h (by decide), fun _ => gTb3 (p := 126) rfl, fun _ => ⟨gSl (p := 4) rfl, by decide⟩, fun h => absurd h (by decide), by decide +kernel, by decide +kernel, by decide +kernel, by decide +kernel⟩
theorem gMk43 : gMOK 43 := ⟨gTb3 (p := 137) rfl, gTb1 (p := 7) rfl, fun h => absurd h (by decide), fun _ => gTb3 (p := 136) rfl, fun _ => ⟨gSl (p := 5) rfl, by decide⟩, fun h => absurd h (by decide), by decide +kernel, by decide +kernel, by decide +kernel, by decide +kernel⟩
theorem gMk44 : gMOK 44 := ⟨gTb3 (p := 150) rfl, gTb1 (p := 7) rfl, fun h => absurd h (by decide), fun _ => gTb3 (p := 149) rfl, fun _ => ⟨gSl (p := 6) rfl, by decide⟩, fun h => absurd h (by decide), by decide +kernel, by decide +kernel, by decide +kernel, by decide +kernel⟩
theorem gMk45 : gMOK 45 := ⟨gTb3 (p := 155) rfl, gTb1 (p := 7) rfl, fun h => absurd h (by decide), fun _ => gTb3 (p := 154) rfl, fun _ => ⟨gSl (p := 7) rfl, by decide⟩, fun h => absurd h (by decide), by decide +kernel, by decide +kernel, by decide +kernel, by decide +kernel⟩
theorem gMk46 : gMOK 46 := ⟨gTb3 (p := 159) rfl, gTb1 (p := 7) rfl, fun h => absurd h (by decide), fun _ => gTb3 (p := 158) rfl, fun _ => ⟨gSl (p := 8) rfl, by decide⟩, fun h => absurd h (by decide), by decide +kernel, by decide +kernel, by decide +kernel, by decide +kernel⟩
theorem gMk47 : gMOK 47 := ⟨gTb3 (p := 163) rfl, gTb1 (p := 7) rfl, fun h => absurd h (by decide), fun _ => gTb3 (p := 162) rfl, fun _ => ⟨gSl (p := 9) rfl, by decide⟩, fun h => absurd h (by decide), by decide +kernel, by decide +kernel, by decide +kernel, by decide +kernel⟩
theorem gMk48 : gMOK 48 := ⟨gTb3 (p := 167) rfl, gTb1 (p := 7) rfl, fun h => absurd h (by decide), fun _ => gTb3 (p := 166) rfl, fun _ => ⟨gSl (p := 10) rfl, by decide⟩, fun h => absurd h (by decide), by decide +kernel, by decide +kernel, by decide +kernel, by decide +kernel⟩
theorem gMk49 : gMOK 49 := ⟨gTb2 (p := 50) rfl, gTb1 (p := 10) rfl, fun h => absurd h (by decide), fun _ => gTb2 (p := 49) rfl, fun h => absurd h (by decide), fun _ => ⟨rfl, rfl⟩, by decide +kernel, by decide +kernel, by decide +kernel, by decide +kernel⟩
theorem gMk50 : gMOK 50 := ⟨gTb4 (p := 132) rfl, gTb1 (p := 10) rfl, fun h => absurd h (by decide), fun _ => gTb4 (p := 130) rfl, fun _ => ⟨gTb4 (p := 131) rfl, by decide⟩, fun h => absurd h (by decide), by decide +kernel, by decide +kernel, by decide +kernel, by decide +kernel⟩
theorem gMk51 : gMOK 51 := ⟨gTb4 (p := 136) rfl, gTb1 (p := 10) rfl, fun h => absurd h (by decide), fun _ => gTb4 (p := 134) rfl, fun _ => ⟨gTb4 (p := 135) rfl, by decide⟩, fun h => absurd h (by decide), by decide +kernel, by decide +kernel, by decide +kernel, by decide +kernel⟩
theorem gMk52 : gMOK 52 := ⟨gTb4 (p := 44) rfl, gTb1 (p := 10) rfl, fun h => absurd h (by decide), fun _ => gTb4 (p := 42) rfl, fun _ => ⟨gTb4 (p := 43) rfl, by decide⟩, fun h => absurd h (by decide), by decide +kernel, by decide +kernel, by decide +kernel, by decide +kernel⟩
theorem gMk53 : gMOK 53 := ⟨gTb4 (p := 149) rfl, gTb1 (p := 10) rfl, fun h => absurd h (by decide), fun _ => gTb4 (p := 147) rfl, fun _ => ⟨gTb4 (p := 148) rfl, by decide⟩, fun h => absurd h (by decide), by decide +kernel, by decide +kernel, by decide +kernel, by decide +kernel⟩
theorem gMk54 : gMOK 54 := ⟨gTb4 (p := 233) rfl, gTb1 (p := 10) rfl, fun h => absurd h (by decide), fun _ => gTb4 (p := 231) rfl, fun _ => ⟨gTb4 (p := 232) rfl, by decide⟩, fun h => absurd h (by decide), by decide +kernel, by decide +kernel, by decide +kernel, by decide +kernel⟩
theorem gMk55 : gMOK 55 := ⟨gTb4 (p := 80) rfl, gTb1 (p := 10) rfl, fun h => absurd h (by decide), fun _ => gTb4 (p := 78) rfl, fun _ => ⟨gTb4 (p := 79) rfl, by decide⟩, fun h => absurd h (by decide), by decide +kernel, by decide +kernel, by decide +kernel, by decide +kernel⟩
theorem gMk56 : gMOK 56 := ⟨gTb4 (p := 58) rfl, gTb1 (p := 10) rfl, fun h => absurd h (by decide), fun _ => gTb4 (p := 57) rfl, fun _ => ⟨gSl (p := 16) rfl, by decide⟩, fun h => absurd h (by decide), by decide +kernel, by decide +kernel, by decide +kernel, by decide +kernel⟩
theorem gMk57 : gMOK 57 := ⟨gTb4 (p := 63) rfl, gTb1 (p := 10) rfl, fun h => absurd h (by decide), fun _ => gTb4 (p := 62) rfl, fun _ => ⟨gSl (p := 17) rfl, by decide⟩, fun h => absurd h (by decide), by decide +kernel, by decide +kernel, by decide +kernel, by decide +kernel⟩
theorem gMk58 : gMOK 58 := ⟨gTb4 (p := 71) rfl, gTb1 (p := 10) rfl, fun h => absurd h (by decide), fun _ => gTb4 (p := 70) rfl, fun _ => ⟨gSl (p := 18) rfl, by decide⟩, fun h => absurd h (by decide), by decide +kernel, by decide +kernel, by decide +kernel, by decide +kernel⟩
theorem gMk59 : gMOK 59 := ⟨gTb4 (p := 84) rfl, gTb1 (p := 10) rfl, fun h => absurd h (by decide), fun _ => gTb4 (p := 83) rfl, fun _ => ⟨gSl (p := 20) rfl, by decide⟩, fun h => absurd h (by decide), by decide +kernel, by decide +kernel, by decide +kernel, by decide +kernel⟩
theorem gMk60 : gMOK 60 := ⟨gTb4 (p := 110) rfl, gTb1 (p := 10) rfl, fun h => absurd h (by decide), fun _ => gTb4 (p := 109) rfl, fun _ => ⟨gSl (p := 25) rfl, by decide⟩, fun h => absurd h (by decide), by decide +kernel, by decide +kernel, by decide +kernel, by decide +kernel⟩
theorem gMk61 : gMOK 61 := ⟨gTb4 (p := 88) rfl, gTb1 (p := 10) rfl, fun h => absurd h (by decide), fun _ => gTb4 (p := 87) rfl, fun _ => ⟨gSl (p := 21) rfl, by decide⟩, fun h => absurd h (by decide), by decide +kernel, by decide +kernel, by decide +kernel, by decide +kernel⟩
theorem gMk62 : gMOK 62 := ⟨gTb4 (p := 92) rfl, gTb1 (p := 10) rfl, fun h => absurd h (by decide), fun _ => gTb4 (p := 91) rfl, fun _ => ⟨gSl (p := 22) rfl, by decide⟩, fun h => absurd h (by decide), by decide +kernel, by decide +kernel, by decide +kernel, by decide +kernel⟩
theorem gMk63 : gMOK 63 := ⟨gTb4 (p := 96) rfl, gTb1 (p := 10) rfl, fun h => absurd h (by decide), fun _ => gTb4 (p := 95) rfl, fun _ => ⟨gSl (p := 23) rfl, by decide⟩, fun h => absurd h (by decide), by decide +kernel, by decide +kernel, by decide +kernel, by decide +kernel⟩
theorem gMk64 : gMOK 64 := ⟨gTb4 (p := 100) rfl, gTb1 (p := 10) rfl, fun h => absurd h (by decide), fun _ => gTb4 (p := 99) rfl, fun _ => ⟨gSl (p := 24) rfl, by decide⟩, fun h => absurd h (by decide), by decide +kernel, by decide +kernel, by decide +kernel, by decide +kernel⟩
theorem gMk65 : gMOK 65 := ⟨gTb1 (p := 37) rfl, gTb1 (p := 2) rfl, fun h => absurd h (by decide), fun _ => gTb1 (p := 36) rfl, fun h => absurd h (by decide), fun _ => ⟨rfl, rfl⟩, by decide +kernel, by decide +kernel, by decide +kernel, by decide +kernel⟩
theorem gMk66 : gMOK 66 := ⟨gTb3 (p := 1) rfl, gTb1 (p := 2) rfl, fun h => absurd h (by decide), fun _ => gTb2 (p := 239) rfl, fun _ => ⟨gTb3 (p := 0) rfl, by decide⟩, fun h => absurd h (by decide), by decide +kernel, by decide +kernel, by decide +kernel, by decide +kernel⟩
theorem gMk67 : gMOK 67 := ⟨gTb3 (p := 18) rfl, gTb1 (p := 2) rfl, fun h => absurd h (by decide), fun _ => gTb3 (p := 16) rfl, fun _ => ⟨gTb3 (p := 17) rfl, by decide⟩, fun h => absurd h (by decide), by decide +kernel, by decide +kernel, by decide +kernel, by decide +kernel⟩
theorem gMk68 : gMOK 68 := ⟨gTb1 (p := 197) rfl, gTb1 (p := 6) rfl, fun h => absurd h (by decide), fun _ => gTb1 (p := 196) rfl, fun h => absurd h (by decide), fun _ => ⟨rfl, rfl⟩, by decide +kernel, by decide +kernel, by decide +kernel, by decide +kernel⟩
theorem gMk69 : gMOK 69 := ⟨gTb3 (p := 22) rfl, gTb1 (p := 6) rfl, fun h => absurd h (by decide), fun _ => gTb3 (p := 20) rfl, fun _ => ⟨gTb3 (p := 21) rfl, by decide⟩, fun h => absurd h (by decide), by decide +kernel, by decide +kernel, by decide +kernel, by decide +kernel⟩
theorem gMk70 : gMOK 70 := ⟨gTb3 (p := 29) rfl, gTb1 (p := 6) rfl, fun h => absurd h (by decide), fun _ => gTb3 (p := 27) rfl, fun _ => ⟨gTb3 (p := 28) rfl, by decide⟩, fun h => absurd h (by decide), by decide +kernel, by decide +kernel, by decide +kernel, by decide +kernel⟩
theorem gMk71 : gMOK 71 := ⟨gTb3 (p := 111) rfl, gTb1 (p := 6) rfl, fun h => absurd h (by decide), fun _ => gTb3 (p := 109) rfl, fun _ => ⟨gTb3 (p := 110) rfl, by decide⟩, fun h => absurd h (by decide), by decide +kernel, by decide +kernel, by decide +kernel, by decide +kernel⟩
theorem gMk72 : gMOK 72 := ⟨gTb3 (p := 98) rfl, gTb1 (p := 6) rfl, fun h => absurd h (by decide), fun _ => gTb3 (p := 96) rfl, fun _ => ⟨gTb3 (p := 97) rfl, by decide⟩, fun h => absurd h (by decide), by decide +kernel, by decide +kernel, by decide +kernel, by decide +kernel⟩
theorem gMk73 : gMOK 73 := ⟨gTb3 (p := 42) rfl, gTb1 (p := 6) rfl, fun h => absurd h (by decide), fun _ => gTb3 (p := 40) rfl, fun _ => ⟨gTb3 (p := 41) rfl, by decide⟩, fun h => absurd h (by decide), by decide +kernel, by decide +kernel, by decide +kernel, by decide +kernel⟩
theorem gMk74 : gMOK 74 := ⟨gTb3 (p := 56) rfl, gTb1 (p := 6) rfl, fun h => absurd h (by decide), fun _ => gTb3 (p := 55) rfl, fun _ => ⟨gSl (p := 0) rfl, by decide⟩, fun h => absurd h (by decide), by decide +kernel, by decide +kernel, by decide +kernel, by decide +kernel⟩
theorem gMk75 : gMOK 75 := ⟨gTb3 (p := 106) rfl, gTb1 (p := 6) rfl, fun h => absurd h (by decide), fun _ => gTb3 (p := 104) rfl, fun _ => ⟨gTb3 (p := 105) rfl, by decide⟩, fun h => absurd h (by decide), by decide +kernel, by decide +kernel, by decide +kernel, by decide +kernel⟩
theorem gMk76 : gMOK 76 := ⟨gTb3 (p := 145) rfl, gTb1 (p := 6) rfl, fun h => absurd h (by decide), fun _ => gTb3 (p := 143) rfl, fun _ => ⟨gTb3 (p := 144) rfl, by decide⟩, fun h => absurd h (by decide), by decide +kernel, by decide +kernel, by decide +kernel, by decide +kernel⟩
theorem gMk77 : gMOK 77 := ⟨gTb3 (p := 141) rfl, gTb1 (p := 6) rfl, fun h => absurd h (by decide), fun _ => gTb3 (p := 139) rfl, fun _ => ⟨gTb3 (p := 140) rfl, by decide⟩, fun h => absurd h (by decide), by decide +kernel, by decide +kernel, by decide +kernel, by decide +kernel⟩
theorem gMk78 : gMOK 78 := ⟨gTb3 (p := 132) rfl, gTb1 (p := 6) rfl, fun h => absurd h (by decide), fun _ => gTb3 (p := 130) rfl, fun _ => ⟨gTb3 (p := 131) rfl, by decide⟩, fun h => absurd h (by decide), by decide +kernel, by decide +kernel, by decide +kernel, by decide +kernel⟩
theorem gMk79 : gMOK 79 := ⟨gTb2 (p := 134) rfl, gTb1 (p := 11) rfl, fun h => absurd h (by decide), fun _ => gTb2 (p := 133) rfl, fun h => absurd h (by decide), fun _ => ⟨rfl, rfl⟩, by decide +kernel, by decide +kernel, by decide +kernel, by decide +kernel⟩
theorem gMk80 : gMOK 80 := ⟨gTb4 (p := 201) rfl, gTb1 (p := 11) rfl, fun h => absurd h (by decide), fun _ => gTb4 (p := 199) rfl, fun _ => ⟨gTb4 (p := 200) rfl, by decide⟩, fun h => absurd h (by decide), by decide +kernel, by decide +kernel, by decide +kernel, by decide +kernel⟩
theorem gMk81 : gMOK 81 := ⟨gTb4 (p := 205) rfl, gTb1 (p := 11) rfl, fun h => absurd h (by decide), fun _ => gTb4 (p := 203) rfl, fun _ => ⟨gTb4 (p := 204) rfl, by decide⟩, fun h => absurd h (by decide), by decide +kernel, by decide +kernel, by decide +kernel, by decide +kernel⟩
theorem gMk82 : gMOK 82 := ⟨gTb4 (p := 215) rfl, gTb1 (p := 11) rfl, fun h => absurd h (by decide), fun _ => gTb4 (p := 214) rfl, fun _ => ⟨gSl (p := 28) rfl, by decide⟩, fun h => absurd h (by decide), by decide +kernel, by decide +kernel, by decide +kernel, by decide +kernel⟩
theorem gMk83 : gMOK 83 := ⟨gTb4 (p := 219) rfl, gTb1 (p := 11) rfl, fun h => absurd h (by decide), fun _ => gTb4 (p := 218) rfl, fun _ => ⟨gSl (p := 29) rfl, by decide⟩, fun h => absurd h (by decide), by decide +kernel, by decide +kernel, by decide +kernel, by decide +kernel⟩
theorem gMk84 : gMOK 84 := ⟨gTb4 (p := 211) rfl, gTb1 (p := 11) rfl, fun h => absurd h (by decide), fun _ => gTb4 (p := 209) rfl, fun _ => ⟨gTb4 (p := 210) rfl, by decide⟩, fun h => absurd h (by decide), by decide +kernel, by decide +kernel, by decide +kernel, by decide +kernel⟩
theorem gMk85 : gMOK 85 := ⟨gTb5 (p := 6) rfl, gTb1 (p := 11) rfl, fun h => absurd h (by decide), fun _ => gTb5 (p := 4) rfl, fun _ => ⟨gTb5 (p := 5) rfl, by decide⟩, fun h => absurd h (by decide), by decide +kernel, by decide +kernel, by decide +kernel, by decide +kernel⟩
theorem gMk86 : gMOK 86 := ⟨gTb5 (p := 14) rfl, gTb1 (p := 11) rfl, fun h => absurd h (by decide), fun _ => gTb5 (p := 12) rfl, fun _ => ⟨gTb5 (p := 13) rfl, by decide⟩, fun h => absurd h (by decide), by decide +kernel, by decide +kernel, by decide +kernel, by decide +kernel⟩
theorem gMk87 : gMOK 87 := ⟨gTb5 (p := 18) rfl, gTb1 (p := 11) rfl, fun h => absurd h (by decide), fun _ => gTb5 (p := 17) rfl, fun _ => ⟨gSl (p := 30) rfl, by decide⟩, fun h => absurd h (by decide), by decide +kernel, by decide +kernel, by decide +kernel, by decide +kernel⟩
theorem gMk88 : gMOK 88 := ⟨gTb5 (p := 26) rfl, gTb1 (p := 11) rfl, fun h => absurd h (by decide), fun _ => gTb5 (p := 24) rfl, fun _ => ⟨gTb5 (p := 25) rfl, by decide⟩, fun h => absurd h (by decide), by decide +kernel, by decide +kernel, by decide +kernel, by decide +kernel⟩
theorem gMk89 : gMOK 89 := ⟨gTb5 (p := 30) rfl, gTb1 (p := 11) rfl, fun h => absurd h (by decide), fun _ => gTb5 (p := 29) rfl, fun _ => ⟨gSl (p := 31) rfl, by decide⟩, fun h => absurd h (by decide), by decide +kernel, by decide +kernel, by decide +kernel, by decide +kernel⟩
theorem gMk90 : gMOK 90 := ⟨gTb5 (p := 34) rfl, gTb1 (p := 11) rfl, fun h => absurd h (by decide), fun _ => gTb5 (p := 32) rfl, fun _ => ⟨gTb5 (p := 33) rfl, by decide⟩, fun h => absurd h (by decide), by decide +kernel, by decide +kernel, by decide +kernel, by decide +kernel⟩
theorem gMk91 : gMOK 91 := ⟨gTb5 (p := 236) rfl, gTb1 (p := 11) rfl, fun h => absurd h (by decide), fun _ => gTb5 (p := 234) rfl, fun _ => ⟨gTb5 (p := 235) rfl, by decide⟩, fun h => absurd h (by decide), by decide +kernel, by decide +kernel, by decide +kernel, by decide +kernel⟩
theorem gMk92 : gMOK 92 := ⟨gTb5 (p := 43) rfl, gTb1 (p := 11) rfl, fun h => absurd h (by decide), fun _ => gTb5 (p := 41) rfl, fun _ => ⟨gTb5 (p := 42) rfl, by decide⟩, fun h => absurd h (by decide), by decide +kernel, by decide +kernel, by decide +kernel, by decide +kernel⟩
theorem gMk93 : gMOK 93 := ⟨gTb5 (p := 62) rfl, gTb1 (p := 11) rfl, fun h => absurd h (by decide), fun _ => gTb5 (p := 60) rfl, fun _ => ⟨gTb5 (p := 61) rfl, by decide⟩, fun h => absurd h (by decide), by decide +kernel, by decide +kernel, by decide +kernel, by decide +kernel⟩
theorem gMk94 : gMOK 94 := ⟨gTb5 (p := 67) rfl, gTb1 (p := 11) rfl, fun h => absurd h (by decide), fun _ => gTb5 (p := 65) rfl, fun _ => ⟨gTb5 (p := 66) rfl, by decide⟩, fun h => absurd h (by decide), by decide +kernel, by decide +kernel, by decide +kernel, by decide +kernel⟩
theorem gMk95 : gMOK 95 := ⟨gTb5 (p := 73) rfl, gTb1 (p := 11) rfl, fun h => absurd h (by decide), fun _ => gTb5 (p := 72) rfl, fun _ => ⟨gSl (p := 33) rfl, by decide⟩, fun h => absurd h (by decide), by decide +kernel, by decide +kernel, by decide +kernel, by decide +kernel⟩
theorem gMk96 : gMOK 96 := ⟨gTb5 (p := 85) rfl, gTb1 (p := 11) rfl, fun h => absurd h (by decide), fun _ => gTb5 (p := 83) rfl, fun _ => ⟨gTb5 (p := 84) rfl, by decide⟩, fun h => absurd h (by decide), by decide +kernel, by decide +kernel, by decide +kernel, by decide +kernel⟩
theorem gMk97 : gMOK 97 := ⟨gTb5 (p := 93) rfl, gTb1 (p := 11) rfl, fun h => absurd h (by decide), fun _ => gTb5 (p := 91) rfl, fun _ => ⟨gTb5 (p := 92) rfl, by decide⟩, fun h => absurd h (by decide), by decide +kernel, by decide +kernel, by decide +kernel, by decide +kernel⟩
theorem gMk98 : gMOK 98 := ⟨gTb1 (p := 29) rfl, gTb1 (p := 1) rfl, fun h => absurd h (by decide), fun _ => gTb1 (p := 28) rfl, fun h => absurd h (by decide), fun _ => ⟨rfl, rfl⟩, by decide +kernel, by decide +kernel, by decide +kernel, by decide +kernel⟩
theorem gMk99 : gMOK 99 := ⟨gTb2 (p := 237) rfl, gTb1 (p := 1) rfl, fun h => absurd h (by decide), fun _ => gTb2 (p := 235) rfl, fun _ => ⟨gTb2 (p := 236) rfl, by decide⟩, fun h => absurd h (by decide), by decide +kernel, by decide +kernel, by decide +kernel, by decide +kernel⟩
theorem gMk100 : gMOK 100 := ⟨gTb3 (p := 5) rfl, gTb1 (p := 1) rfl, fun h => absurd h (by decide), fun _ => gTb3 (p := 3) rfl, fun _ => ⟨gTb3 (p := 4) rfl, by decide⟩, fun h => absurd h (by decide), by decide +kernel, by decide +kernel, by decide +kernel, by decide +kernel⟩
theorem gMk101 : gMOK 101 := ⟨gTb3 (p := 9) rfl, gTb1 (p := 1) rfl, fun h => absurd h (by decide), fun _ => gTb3 (p := 7) rfl, fun _ => ⟨gTb3 (p := 8) rfl, by decide⟩, fun h => absurd h (by decide), by decide +kernel, by decide +kernel, by decide +kernel, by decide +kernel⟩
theorem gMk102 : gMOK 102 := ⟨gTb3 (p := 229) rfl, gTb1 (p := 1) rfl, fun h => absurd h (by decide), fun _ => gTb3 (p := 227) rfl, fun _ => ⟨gTb3 (p := 228) rfl, by decide⟩, fun h => absurd h (by decide), by decide +kernel, by decide +kernel, by decide +kernel, by decide +kernel⟩
theorem gMk103 : gMOK 103 := ⟨gTb5 (p := 149) rfl, gTb1 (p := 1) rfl, fun h => absurd h (by decide), fun _ => gTb5 (p := 147) rfl, fun _ => ⟨gTb5 (p := 148) rfl, by decide⟩, fun h => absurd h (by decide), by decide +kernel, by decide +kernel, by decide +kernel, by decide +kernel⟩
theorem gMk104 : gMOK 104 := ⟨gTb3 (p := 233) rfl, gTb1 (p := 1) rfl, fun h => absurd h (by decide), fun _ => gTb3 (p := 231) rfl, fun _ => ⟨gTb3 (p := 232) rfl, by decide⟩, fun h => absurd h (by decide), by decide +kernel, by decide +kernel, by decide +kernel, by decide +kernel⟩
theorem gMk105 : gMOK 105 := ⟨gTb3 (p := 237) rfl, gTb1 (p := 1) rfl, fun h => absurd h (by decide), fun _ => gTb3 (p := 235) rfl, fun _ => ⟨gTb3 (p := 236) rfl, by decide⟩, fun h => absurd h (by decide), by decide +kernel, by decide +kernel, by decide +kernel, by decide +kernel⟩
theorem gMk106 : gMOK 106 := ⟨gTb4 (p := 3) rfl, gTb1 (p := 1) rfl, fun h => absurd h (by decide), fun _ => gTb4 (p := 1) rfl, fun _ => ⟨gTb4 (p := 2) rfl, by decide⟩, fun h => absurd h (by decide), by decide +kernel, by decide +kernel, by decide +kernel, by decide +kernel⟩
theorem gMk107 : gMOK 107 := ⟨gTb4 (p := 7) rfl, gTb1 (p := 1) rfl, fun h => absurd h (by decide), fun _ => gTb4 (p := 5) rfl, fun _ => ⟨gTb4 (p := 6) rfl, by decide⟩, fun h => absurd h (by decide), by decide +kernel, by decide +kernel, by decide +kernel, by decide +kernel⟩
theorem gMk108 : gMOK 108 := ⟨gTb5 (p := 221) rfl, gTb1 (p := 1) rfl, fun h => absurd h (by decide), fun _ => gTb5 (p := 219) rfl, fun _ => ⟨gTb5 (p := 220) rfl, by decide⟩, fun h => absurd h (by decide), by decide +kernel, by decide +kernel, by decide +kernel, by decide +kernel⟩
theorem gMk109 : gMOK 109 := ⟨gTb4 (p := 33) rfl, gTb1 (p := 1) rfl, fun h => absurd h (by decide), fun _ => gTb4 (p := 31) rfl, fun _ => ⟨gTb4 (p := 32) rfl, by decide⟩, fun h => absurd h (by decide), by decide +kernel, by decide +kernel, by decide +kernel, by decide +kernel⟩
theorem gMk110 : gMOK 110 := ⟨gTb4 (p := 117) rfl, gTb1 (p := 1) rfl, fun h => absurd h (by decide), fun _ => gTb4 (p := 115) rfl, fun _ => ⟨gTb4 (p := 116) rfl, by decide⟩, fun h => absurd h (by decide), by decide +kernel, by decide +kernel, by decide +kernel, by decide +kernel⟩
theorem gMk111 : gMOK 111 := ⟨gTb4 (p := 124) rfl, gTb1 (p := 1) rfl, fun h => absurd h (by decide), fun _ => gTb4 (p := 122) rfl, fun _ => ⟨gTb4 (p := 123) rfl, by decide⟩, fun h => absurd h (by decide), by decide +kernel, by decide +kernel, by decide +kernel, by decide +kernel⟩
theorem gMk112 : gMOK 112 := ⟨gTb4 (p := 128) rfl, gTb1 (p := 1) rfl, fun h => absurd h (by decide), fun _ => gTb4 (p := 126) rfl, fun _ => ⟨gTb4 (p := 127) rfl, by decide⟩, fun h => absurd h (by decide), by decide +kernel, by decide +kernel, by decide +kernel, by decide +kernel⟩
theorem gMk113 : gMOK 113 := ⟨gTb4 (p := 140) rfl, gTb1 (p := 1) rfl, fun h => absurd h (by decide), fun _ => gTb4 (p := 138) rfl, fun _ => ⟨gTb4 (p := 139) rfl, by decide⟩, fun h => absurd h (by decide), by decide +kernel, by decide +kernel, by decide +kernel, by decide +kernel⟩
theorem gMk114 : gMOK 114 := ⟨gTb4 (p := 144) rfl, gTb1 (p := 1) rfl, fun h => absurd h (by decide), fun _ => gTb4 (p := 142) rfl, fun _ => ⟨gTb4 (p := 143) rfl, by decide⟩, fun h => absurd h (by decide), by decide +kernel, by decide +kernel, by decide +kernel, by decide +kernel⟩
theorem gMk115 : gMOK 115 := ⟨gTb4 (p := 154) rfl, gTb1 (p := 1) rfl, fun h => absurd h (by decide), fun _ => gTb4 (p := 152) rfl, fun _ => ⟨gTb4 (p := 153) rfl, by decide⟩, fun h => absurd h (by decide), by decide +kernel, by decide +kernel, by decide +kernel, by decide +kernel⟩
theorem gMk116 : gMOK 116 := ⟨gTb4 (p := 163) rfl, gTb1 (p := 1) rfl, fun h => absurd h (by decide), fun _ => gTb4 (p := 161) rfl, fun _ => ⟨gTb4 (p := 162) rfl, by decide⟩, fun h => absurd h (by decide), by decide +kernel, by decide +kernel, by decide +kernel, by decide +kernel⟩
theorem gMk117 : gMOK 117 := ⟨gTb4 (p := 167) rfl, gTb1 (p := 1) rfl, fun h => absurd h (by decide), fun _ => gTb4 (p := 165) rfl, fun _ => ⟨gTb4 (p := 166) rfl, by decide⟩, fun h => absurd h (by decide), by decide +kernel, by decide +kernel, by decide +kernel, by decide +kernel⟩
theorem gMk118 : gMOK 118 := ⟨gTb4 (p := 189) rfl, gTb1 (p := 1) rfl, fun h => absurd h (by decide), fun _ => gTb4 (p := 187) rfl, fun _ => ⟨gTb4 (p := 188) rfl, by decide⟩, fun h => absurd h (by decide), by decide +kernel, by decide +kernel, by decide +kernel, by decide +kernel⟩
theorem gMk119 : gMOK 119 := ⟨gTb4 (p := 197) rfl, gTb1 (p := 1) rfl, fun h => absurd h (by decide), fun _ => gTb4 (p := 195) rfl, fun _ => ⟨gTb4 (p := 196) rfl, by decide⟩, fun h => absurd h (by decide), by decide +kernel, by decide +kernel, by decide +kernel, by decide +kernel⟩
theorem gMk120 : gMOK 120 := ⟨gTb4 (p := 238) rfl, gTb1 (p := 1) rfl, fun h => absurd h (by decide), fun _ => gTb4 (p := 236) rfl, fun _ => ⟨gTb4 (p := 237) rfl, by decide⟩, fun h => absurd h (by decide), by decide +kernel, by decide +kernel, by decide +kernel, by decide +kernel⟩
theorem gMk121 : gMOK 121 := ⟨gTb5 (p := 2) rfl, gTb1 (p := 1) rfl, fun h => absurd h (by decide), fun _ => gTb5 (p := 0) rfl, fun _ => ⟨gTb5 (p := 1) rfl, by decide⟩, fun h => absurd h (by decide), by decide +kernel, by decide +kernel, by decide +kernel, by decide +kernel⟩
theorem gMk122 : gMOK 122 := ⟨gTb5 (p := 10) rfl, gTb1 (p := 1) rfl, fun h => absurd h (by decide), fun _ => gTb5 (p := 8) rfl, fun _ => ⟨gTb5 (p := 9) rfl, by decide⟩, fun h => absurd h (by decide), by decide +kernel, by decide +kernel, by decide +kernel, by decide +kernel⟩
theorem gMk123 : gMOK 123 := ⟨gTb5 (p := 22) rfl, gTb1 (p := 1) rfl, fun h => absurd h (by decide), fun _ => gTb5 (p := 20) rfl, fun _ => ⟨gTb5 (p := 21) rfl, by decide⟩, fun h => absurd h (by decide), by decide +kernel, by decide +kernel, by decide +kernel, by decide +kernel⟩
theorem gMk124 : gMOK 124 := ⟨gTb5 (p := 228) rfl, gTb1 (p := 1) rfl, fun h => absurd h (by decide), fun _ => gTb5 (p := 226) rfl, fun _ => ⟨gTb5 (p := 227) rfl, by decide⟩, fun h => absurd h (by decide), by decide +kernel, by decide +kernel, by decide +kernel, by decide +kernel⟩
theorem gMk125 : gMOK 125 := ⟨gTb5 (p := 38) rfl, gTb1 (p := 1) rfl, fun h => absurd h (by decide), fun _ => gTb5 (p := 36) rfl, fun _ => ⟨gTb5 (p := 37) rfl, by decide⟩, fun h => absurd h (by decide), by decide +kernel, by decide +kernel, by decide +kernel, by decide +kernel⟩
theorem gMk126 : gMOK 126 := ⟨gTb5 (p := 49) rfl, gTb1 (p := 1) rfl, fun h => absurd h (by decide), fun _ => gTb5 (p := 47) rfl, fun _ => ⟨gTb5 (p := 48) rfl, by decide⟩, fun h => absurd h (by decide), by decide +kernel, by decide +kernel, by decide +kernel, by decide +kernel⟩
theorem gMk127 : gMOK 127 := ⟨gTb5 (p := 53) rfl, gTb1 (p := 1) rfl, fun h => absurd h (by decide), fun _ => gTb5 (p := 51) rfl, fun _ => ⟨gTb5 (p := 52) rfl, by decide⟩, fun h => absurd h (by decide), by decide +kernel, by decide +kernel, by decide +kernel, by decide +kernel⟩
theorem gMk128 : gMOK 128 := ⟨gTb5 (p := 77) rfl, gTb1 (p := 1) rfl, fun h => absurd h (by decide), fun _ => gTb5 (p := 75) rfl, fun _ => ⟨gTb5 (p := 76) rfl, by decide⟩, fun h => absurd h (by decide), by decide +kernel, by decide +kernel, by decide +kernel, by decide +kernel⟩
theorem gMk129 : gMOK 129 := ⟨gTb5 (p := 81) rfl, gTb1 (p := 1) rfl, fun h => absurd h (by decide), fun _ => gTb5 (p := 79) rfl, fun _ => ⟨gTb5 (p := 80) rfl, by decide⟩, fun h => absurd h (by decide), by decide +kernel, by decide +kernel, by decide +kernel, by decide +kernel⟩
theorem gMk130 : gMOK 130 := ⟨gTb5 (p := 89) rfl, gTb1 (p := 1) rfl, fun h => absurd h (by decide), fun _ => gTb5 (p := 87) rfl, fun _ => ⟨gTb5 (p := 88) rfl, by decide⟩, fun h => absurd h (by decide), by decide +kernel, by decide +kernel, by decide +kernel, by decide +kernel⟩
theorem gMk131 : gMOK 131 := ⟨gTb5 (p := 101) rfl, gTb1 (p := 1) rfl, fun h => absurd h (by decide), fun _ => gTb5 (p := 99) rfl, fun _ => ⟨gTb5 (p := 100) rfl, by decide⟩, fun h => absurd h (by decide), by decide +kernel, by decide +kernel, by decide +kernel, by decide +kernel⟩
theorem gMk132 : gMOK 132 := ⟨gTb5 (p := 106) rfl, gTb1 (p := 1) rfl, fun h => absurd h (by decide), fun _ => gTb5 (p := 104) rfl, fun _ => ⟨gTb5 (p := 105) rfl, by decide⟩, fun h => absurd h (by decide), by decide +kernel, by decide +kernel, by decide +kernel, by decide +kernel⟩
theorem gMk133 : gMOK 133 := ⟨gTb5 (p := 111) rfl, gTb1 (p := 1) rfl, fun h => absurd h (by decide), fun _ => gTb5 (p := 109) rfl, fun _ => ⟨gTb5 (p := 110) rfl, by decide⟩, fun h => absurd h (by decide), by decide +kernel, by decide +kernel, by decide +kernel, by decide +kernel⟩
theorem gMk134 : gMOK 134 := ⟨gTb5 (p := 117) rfl, gTb1 (p := 1) rfl, fun h => absurd h (by decide), fun _ => gTb5 (p := 115) rfl, fun _ => ⟨gTb5 (p := 116) rfl, by decide⟩, fun h => absurd h (by decide), by decide +kernel, by decide +kernel, by decide +kernel, by decide +kernel⟩
theorem gMk135 : gMOK 135 := ⟨gTb5 (p := 125) rfl, gTb1 (p := 1) rfl, fun h => absurd h (by decide), fun _ => gTb5 (p := 123) rfl, fun _ => ⟨gTb5 (p := 124) rfl, by decide⟩, fun h => absurd h (by decide), by decide +kernel, by decide +kernel, by decide +kernel, by decide +kernel⟩
theorem gMk136 : gMOK 136 := ⟨gTb5 (p := 129) rfl, gTb1 (p := 1) rfl, fun h => absurd h (by decide), fun _ => gTb5 (p := 127) rfl, fun _ => ⟨gTb5 (p := 128) rfl, by decide⟩, fun h => absurd h (by decide), by decide +kernel, by decide +kernel, by decide +kernel, by decide +kernel⟩
theorem gMk137 : gMOK 137 := ⟨gTb5 (p := 133) rfl, gTb1 (p := 1) rfl, fun h => absurd h (by decide), fun _ => gTb5 (p := 131) rfl, fun _ => ⟨gTb5 (p := 132) rfl, by decide⟩, fun h => absurd h (by decide), by decide +kernel, by decide +kernel, by decide +kernel, by decide +kernel⟩
theorem gMk138 : gMOK 138 := ⟨gTb5 (p := 137) rfl, gTb1 (p := 1) rfl, fun h => absurd h (by decide), fun _ => gTb5 (p := 135) rfl, fun _ => ⟨gTb5 (p := 136) rfl, by decide⟩, fun h => absurd h (by decide), by decide +kernel, by decide +kernel, by decide +kernel, by decide +kernel⟩
theorem gMk139 : gMOK 139 := ⟨gTb5 (p := 141) rfl, gTb1 (p := 1) rfl, fun h => absurd h (by decide), fun _ => gTb5 (p := 139) rfl, fun _ => ⟨gTb5 (p := 140) rfl, by decide⟩, fun h => absurd h (by decide), by decide +kernel, by decide +kernel, by decide +kernel, by decide +kernel⟩
theorem gMk140 : gMOK 140 := ⟨gTb5 (p := 57) rfl, gTb1 (p := 1) rfl, fun h => absurd h (by decide), fun _ => gTb5 (p := 56) rfl, fun _ => ⟨gSl (p := 32) rfl, by decide⟩, fun h => absurd h (by decide), by decide +kernel, by decide +kernel, by decide +kernel, by decide +kernel⟩
theorem gMk141 : gMOK 141 := ⟨gTb4 (p := 36) rfl, gTb1 (p := 1) rfl, fun _ => gTb4 (p := 35) rfl, fun h => absurd rfl h, fun h => absurd h (by decide), fun h => absurd h (by decide), by decide +kernel, by decide +kernel, by decide +kernel, by decide +kernel⟩
theorem gMk142 : gMOK 142 := ⟨gTb4 (p := 120) rfl, gTb1 (p := 1) rfl, fun _ => gTb4 (p := 119) rfl, fun h => absurd rfl h, fun h => absurd h (by decide), fun h => absurd h (by decide), by decide +kernel, by decide +kernel, by decide +kernel, by decide +kernel⟩
theorem gMk143 : gMOK 143 := ⟨gTb3 (p := 182) rfl, gTb1 (p := 1) rfl, fun _ => gTb3 (p := 181) rfl, fun h => absurd rfl h, fun h => absurd h (by decide), fun h => absurd h (by decide), by decide +kernel, by decide +kernel, by decide +kernel, by decide +kernel⟩
theorem gMk144 : gMOK 144 := ⟨gTb5 (p := 121) rfl, gTb1 (p := 1) rfl, fun _ => gTb5 (p := 120) rfl, fun h => absurd rfl h, fun h => absurd h (by decide), fun h => absurd h (by decide), by decide +kernel, by decide +kernel, by decide +kernel, by decide +kernel⟩
theorem gMk145 : gMOK 145 := ⟨gTb6 (p := 0) rfl, gTb1 (p := 12) rfl, fun h => absurd h (by decide), fun _ => gTb5 (p := 238) rfl, fun _ => ⟨gTb5 (p := 239) rfl, by decide⟩, fun h => absurd h (by decide), by decide +kernel, by decide +kernel, by decide +kernel, by decide +kernel⟩
theorem gMk146 : gMOK 146 := ⟨gTb7 (p := 133) rfl, gTb1 (p := 12) rfl, fun h => absurd h (by decide), fun _ => gTb7 (p := 132) rfl, fun _ => ⟨gSl (p := 60) rfl, by decide⟩, fun h => absurd h (by decide), by decide +kernel, by decide +kernel, by decide +kernel, by decide +kernel⟩
theorem gMk147 : gMOK 147 := ⟨gTb6 (p := 4) rfl, gTb1 (p := 12) rfl, fun h => absurd h (by decide), fun _ => gTb6 (p := 2) rfl, fun _ => ⟨gTb6 (p := 3) rfl, by decide⟩, fun h => absurd h (by decide), by decide +kernel, by decide +kernel, by decide +kernel, by decide +kernel⟩
theorem gMk148 : gMOK 148 := ⟨gTb6 (p := 9) rfl, gTb1 (p := 12) rfl, fun h => absurd h (by decide), fun _ => gTb6 (p := 7) rfl, fun _ => ⟨gSl (p := 35) rfl, by decide⟩, fun h => absurd h (by decide), by decide +kernel, by decide +kernel, by decide +kernel, by decide +kernel⟩
theorem gMk149 : gMOK 149 := ⟨gTb6 (p := 13) rfl, gTb1 (p := 12) rfl, fun h => absurd h (by decide), fun _ => gTb6 (p := 11) rfl, fun _ => ⟨gTb6 (p := 12) rfl, by decide⟩, fun h => absurd h (by decide), by decide +kernel, by decide +kernel, by decide +kernel, by decide +kernel⟩
theorem gMk150 : gMOK 150 := ⟨gTb6 (p := 239) rfl, gTb1 (p := 12) rfl, fun h => absurd h (by decide), fun _ => gTb6 (p := 238) rfl, fun _ => ⟨gSl (p := 37) rfl, by decide⟩, fun h => absurd h (by decide), by decide +kernel, by decide +kernel, by decide +kernel, by decide +kernel⟩
theorem gMk151 : gMOK 151 := ⟨gTb7 (p := 37) rfl, gTb1 (p := 12) rfl, fun _ => gTb7 (p := 36) rfl, fun h => absurd rfl h, fun h => absurd h (by decide), fun h => absurd h (by decide), by decide +kernel, by decide +kernel, by decide +kernel, by decide +kernel⟩
theorem gMk152 : gMOK 152 := ⟨gTb7 (p := 105) rfl, gTb1 (p := 12) rfl, fun _ => gTb7 (p := 104) rfl, fun h => absurd rfl h, fun h => absurd h (by decide), fun h => absurd h (by decide), by decide +kernel, by decide +kernel, by decide +kernel, by decide +kernel⟩
theorem gMk153 : gMOK 153 := ⟨gTb7 (p := 140) rfl, gTb1 (p := 12) rfl, fun _ => gTb7 (p := 139) rfl, fun h => absurd rfl h, fun h => absurd h (by decide), fun h => absurd h (by decide), by decide +kernel, by decide +kernel, by decide +kernel, by decide +kernel⟩
theorem gMk154 : gMOK 154 := ⟨gTb7 (p := 220) rfl, gTb1 (p := 12) rfl, fun _ => gTb7 (p := 219) rfl, fun h => absurd rfl h, fun h => absurd h (by decide), fun h => absurd h (by decide), by decide +kernel, by decide +kernel, by decide +kernel, by decide +kernel⟩
theorem gMk155 : gMOK 155 := ⟨gTb7 (p := 34) rfl, gTb1 (p := 12) rfl, fun h => absurd h (by decide), fun _ => gTb7 (p := 33) rfl, fun _ => ⟨gSl (p := 44) rfl, by decide⟩, fun h => absurd h (by decide), by decide +kernel, by decide +kernel, by decide +kernel, by decide +kernel⟩
theorem gMk156 : gMOK 156 := ⟨gTb6 (p := 17) rfl, gTb1 (p := 12) rfl, fun h => absurd h (by decide), fun _ => gTb6 (p := 16) rfl, fun h => absurd h (by decide), fun _ => ⟨rfl, rfl⟩, by decide +kernel, by decide +kernel, by decide +kernel, by decide +kernel⟩
theorem gMk157 : gMOK 157 := ⟨gTb6 (p := 22) rfl, gTb1 (p := 12) rfl, fun h => absurd h (by decide), fun _ => gTb6 (p := 21) rfl, fun _ => ⟨gSl (p := 36) rfl, by decide⟩, fun h => absurd h (by decide), by decide +kernel, by decide +kernel, by decide +kernel, by decide +kernel⟩
theorem gMk158 : gMOK 158 := ⟨gTb7 (p := 7) rfl, gTb1 (p := 12) rfl, fun h => absurd h (by decide), fun _ => gTb7 (p := 6) rfl, fun _ => ⟨gSl (p := 39) rfl, by decide⟩, fun h => absurd h (by decide), by decide +kernel, by decide +kernel, by decide +kernel, by decide +kernel⟩
theorem gMk159 : gMOK 159 := ⟨gTb7 (p := 10) rfl, gTb1 (p := 12) rfl, fun _ => gTb7 (p := 9) rfl, fun h => absurd rfl h, fun h => absurd h (by decide), fun h => absurd h (by decide), by decide +kernel, by decide +kernel, by decide +kernel, by decide +kernel⟩
theorem gMk160 : gMOK 160 := ⟨gTb7 (p := 13) rfl, gTb1 (p := 12) rfl, fun _ => gTb7 (p := 12) rfl, fun h => absurd rfl h, fun h => absurd h (by decide), fun h => absurd h (by decide), by decide +kernel, by decide +kernel, by decide +kernel, by decide +kernel⟩
theorem gMk161 : gMOK 161 := ⟨gTb7 (p := 3) rfl, gTb1 (p := 12) rfl, fun h => absurd h (by decide), fun _ => gTb7 (p := 2) rfl, fun _ => ⟨gSl (p := 38) rfl, by decide⟩, fun h => absurd h (by decide), by decide +kernel, by decide +kernel, by decide +kernel, by decide +kernel⟩
theorem gMk162 : gMOK 162 := ⟨gTb7 (p := 30) rfl, gTb1 (p := 12) rfl, fun h => absurd h (by decide), fun _ => gTb7 (p := 29) rfl, fun _ => ⟨gSl (p := 43) rfl, by decide⟩, fun h => absurd h (by decide), by decide +kernel, by decide +kernel, by decide +kernel, by decide +kernel⟩
theorem gMk163 : gMOK 163 := ⟨gTb7 (p := 22) rfl, gTb1 (p := 12) rfl, fun h => absurd h (by decide), fun _ => gTb7 (p := 21) rfl, fun _ => ⟨gSl (p := 41) rfl, by decide⟩, fun h => absurd h (by decide), by decide +kernel, by decide +kernel, by decide +kernel, by decide +kernel⟩
theorem gMk164 : gMOK 164 := ⟨gTb7 (p := 67) rfl, gTb1 (p := 12) rfl, fun h => absurd h (by decide), fun _ => gTb7 (p := 66) rfl, fun _ => ⟨gSl (p := 49) rfl, by decide⟩, fun h => absurd h (by decide), by decide +kernel, by decide +kernel, by decide +kernel, by decide +kernel⟩
theorem gMk165 : gMOK 165 := ⟨gTb7 (p := 117) rfl, gTb1 (p := 12) rfl, fun h => absurd h (by decide), fun _ => gTb7 (p := 116) rfl, fun _ => ⟨gSl (p := 58) rfl, by decide⟩, fun h => absurd h (by decide), by decide +kernel, by decide +kernel, by decide +kernel, by decide +kernel⟩
theorem gMk166 : gMOK 166 := ⟨gTb7 (p := 79) rfl, gTb1 (p := 12) rfl, fun h => absurd h (by decide), fun _ => gTb7 (p := 78) rfl, fun _ => ⟨gSl (p := 52) rfl, by decide⟩, fun h => absurd h (by decide), by decide +kernel, by decide +kernel, by decide +kernel, by decide +kernel⟩
theorem gMk167 : gMOK 167 := ⟨gTb7 (p := 17) rfl, gTb1 (p := 12) rfl, fun h => absurd h (by decide), fun _ => gTb7 (p := 16) rfl, fun _ => ⟨gSl (p := 40) rfl, by decide⟩, fun h => absurd h (by decide), by decide +kernel, by decide +kernel, by decide +kernel, by decide +kernel⟩
theorem gMk168 : gMOK 168 := ⟨gTb7 (p := 111) rfl, gTb1 (p := 12) rfl, fun h => absurd h (by decide), fun _ => gTb7 (p := 110) rfl, fun _ => ⟨gSl (p := 57) rfl, by decide⟩, fun h => absurd h (by decide), by decide +kernel, by decide +kernel, by decide +kernel, by decide +kernel⟩
theorem gMk169 : gMOK 169 := ⟨gTb7 (p := 102) rfl, gTb1 (p := 12) rfl, fun h => absurd h (by decide), fun _ => gTb7 (p := 101) rfl, fun _ => ⟨gSl (p := 56) rfl, by decide⟩, fun h => absurd h (by decide), by decide +kernel, by decide +kernel, by decide +kernel, by decide +kernel⟩
theorem gMk170 : gMOK 170 := ⟨gTb7 (p := 26) rfl, gTb1 (p := 12) rfl, fun h => absurd h (by decide), fun _ => gTb7 (p := 25) rfl, fun _ => ⟨gSl (p := 42) rfl, by decide⟩, fun h => absurd h (by decide), by decide +kernel, by decide +kernel, by decide +kernel, by decide +kernel⟩
theorem gMk171 : gMOK 171 := ⟨gTb7 (p := 42) rfl, gTb1 (p := 12) rfl, fun h => absurd h (by decide), fun _ => gTb7 (p := 41) rfl, fun _ => ⟨gSl (p := 45) rfl, by decide⟩, fun h => absurd h (by decide), by decide +kernel, by decide +kernel, by decide +kernel, by decide +kernel⟩
theorem gMk172 : gMOK 172 := ⟨gTb7 (p := 83) rfl, gTb1 (p := 12) rfl, fun h => absurd h (by decide), fun _ => gTb7 (p := 82) rfl, fun _ => ⟨gSl (p := 53) rfl, by decide⟩, fun h => absurd h (by decide), by decide +kernel, by decide +kernel, by decide +kernel, by decide +kernel⟩
theorem gMk173 : gMOK 173 := ⟨gTb7 (p := 87) rfl, gTb1 (p := 12) rfl, fun h => absurd h (by decide), fun _ => gTb7 (p := 86) rfl, fun _ => ⟨gSl (p := 54) rfl, by decide⟩, fun h => absurd h (by decide), by decide +kernel, by decide +kernel, by decide +kernel, by decide +kernel⟩
theorem gMk174 : gMOK 174 := ⟨gTb7 (p := 90) rfl, gTb1 (p := 12) rfl, fun _ => gTb7 (p := 89) rfl, fun h => absurd rfl h, fun h => absurd h (by decide), fun h => absurd h (by decide), by decide +kernel, by decide +kernel, by decide +kernel, by decide +kernel⟩
theorem gMk175 : gMOK 175 := ⟨gTb7 (p := 71) rfl, gTb1 (p := 12) rfl, fun h => absurd h (by decide), fun _ => gTb7 (p := 70) rfl, fun _ => ⟨gSl (p := 50) rfl, by decide⟩, fun h => absurd h (by decide), by decide +kernel, by decide +kernel, by decide +kernel, by decide +kernel⟩
theorem gMk176 : gMOK 176 := ⟨gTb7 (p := 94) rfl, gTb1 (p := 12) rfl, fun h => absurd h (by decide), fun _ => gTb7 (p := 93) rfl, fun _ => ⟨gSl (p := 55) rfl, by decide⟩, fun h => absurd h (by decide), by decide +kernel, by decide +kernel, by decide +kernel, by decide +kernel⟩
theorem gMk177 : gMOK 177 := ⟨gTb7 (p := 46) rfl, gTb1 (p := 12) rfl, fun h => absurd h (by decide), fun _ => gTb7 (p := 45) rfl, fun _ => ⟨gSl (p := 46) rfl, by decide⟩, fun h => absurd h (by decide), by decide +kernel, by decide +kernel, by decide +kernel, by decide +kernel⟩
theorem gMk178 : gMOK 178 := ⟨gTb7 (p := 55) rfl, gTb1 (p := 12) rfl, fun h => absurd h (by decide), fun _ => gTb7 (p := 54) rfl, fun _ => ⟨gSl (p := 48) rfl, by decide⟩, fun h => absurd h (by decide), by decide +kernel, by decide +kernel, by decide +kernel, by decide +kernel⟩
theorem gMk179 : gMOK 179 := ⟨gTb7 (p := 50) rfl, gTb1 (p := 12) rfl, fun h => absurd h (by decide), fun _ => gTb7 (p := 49) rfl, fun _ => ⟨gSl (p := 47) rfl, by decide⟩, fun h => absurd h (by decide), by decide +kernel, by decide +kernel, by decide +kernel, by decide +kernel⟩
theorem gMk180 : gMOK 180 := ⟨gTb7 (p := 75) rfl, gTb1 (p := 12) rfl, fun h => absurd h (by decide), fun _ => gTb7 (p := 74) rfl, fun _ => ⟨gSl (p := 51) rfl, by decide⟩, fun h => absurd h (by decide), by decide +kernel, by decide +kernel, by decide +kernel, by decide +kernel⟩
theorem gMk181 : gMOK 181 := ⟨gTb6 (p := 235) rfl, gTb1 (p := 12) rfl, fun h => absurd h (by decide), fun _ => gTb6 (p := 233) rfl, fun _ => ⟨gTb6 (p := 234) rfl, by decide⟩, fun h => absurd h (by decide), by decide +kernel, by decide +kernel, by decide +kernel, by decide +kernel⟩
theorem gMk182 : gMOK 182 := ⟨gTb7 (p := 121) rfl, gTb1 (p := 12) rfl, fun h => absurd h (by decide), fun _ => gTb7 (p := 119) rfl, fun _ => ⟨gTb7 (p := 120) rfl, by decide⟩, fun h => absurd h (by decide), by decide +kernel, by decide +kernel, by decide +kernel, by decide +kernel⟩
theorem gMk183 : gMOK 183 := ⟨gTb7 (p := 129) rfl, gTb1 (p := 12) rfl, fun h => absurd h (by decide), fun _ => gTb7 (p := 128) rfl, fun _ => ⟨gSl (p := 59) rfl, by decide⟩, fun h => absurd h (by decide), by decide +kernel, by decide +kernel, by decide +kernel, by decide +kernel⟩
theorem gMk184 : gMOK 184 := ⟨gTb7 (p := 170) rfl, gTb1 (p := 12) rfl, fun h => absurd h (by decide), fun _ => gTb7 (p := 169) rfl, fun _ => ⟨gSl (p := 63) rfl, by decide⟩, fun h => absurd h (by decide), by decide +kernel, by decide +kernel, by decide +kernel, by decide +kernel⟩
theorem gMk185 : gMOK 185 := ⟨gTb7 (p := 197) rfl, gTb1 (p := 12) rfl, fun h => absurd h (by decide), fun _ => gTb7 (p := 196) rfl, fun _ => ⟨gSl (p := 67) rfl, by decide⟩, fun h => absurd h (by decide), by decide +kernel, by decide +kernel, by decide +kernel, by decide +kernel⟩
theorem gMk186 : gMOK 186 := ⟨gTb7 (p := 193) rfl, gTb1 (p := 12) rfl, fun h => absurd h (by decide), fun _ => gTb7 (p := 192) rfl, fun _ => ⟨gSl (p := 66) rfl, by decide⟩, fun h => absurd h (by decide), by decide +kernel, by decide +kernel, by decide +kernel, by decide +kernel⟩
theorem gMk187 : gMOK 187 := ⟨gTb7 (p := 125) rfl, gTb1 (p := 12) rfl, fun h => absurd h (by decide), fun _ => gTb7 (p := 123) rfl, fun _ => ⟨gTb7 (p := 124) rfl, by decide⟩, fun h => absurd h (by decide), by decide +kernel, by decide +kernel, by decide +kernel, by decide +kernel⟩
theorem gMk188 : gMOK 188 := ⟨gTb7 (p := 137) rfl, gTb1 (p := 12) rfl, fun h => absurd h (by decide), fun _ => gTb7 (p := 136) rfl, fun _ => ⟨gSl (p := 61) rfl, by decide⟩, fun h => absurd h (by decide), by decide +kernel, by decide +kernel, by decide +kernel, by decide +kernel⟩
theorem gMk189 : gMOK 189 := ⟨gTb7 (p := 144) rfl, gTb1 (p := 12) rfl, fun h => absurd h (by decide), fun _ => gTb7 (p := 142) rfl, fun _ => ⟨gTb7 (p := 143) rfl, by decide⟩, fun h => absurd h (by decide), by decide +kernel, by decide +kernel, by decide +kernel, by decide +kernel⟩
theorem gMk190 : gMOK 190 := ⟨gTb7 (p := 148) rfl, gTb1 (p := 12) rfl, fun h => absurd h (by decide), fun _ => gTb7 (p := 146) rfl, fun _ => ⟨gTb7 (p := 147) rfl, by decide⟩, fun h => absurd h (by decide), by decide +kernel, by decide +kernel, by decide +kernel, by decide +kernel⟩
theorem gMk191 : gMOK 191 := ⟨gTb7 (p := 153) rfl, gTb1 (p := 12) rfl, fun h => absurd h (by decide), fun _ => gTb7 (p := 151) rfl, fun _ => ⟨gTb7 (p := 152) rfl, by decide⟩, fun h => absurd h (by decide), by decide +kernel, by decide +kernel, by decide +kernel, by decide +kernel⟩
theorem gMk192 : gMOK 192 := ⟨gTb7 (p := 161) rfl, gTb1 (p := 12) rfl, fun h => absurd h (by decide), fun _ => gTb7 (p := 160) rfl, fun _ => ⟨gSl (p := 62) rfl, by decide⟩, fun h => absurd h (by decide), by decide +kernel, by decide +kernel, by decide +kernel, by decide +kernel⟩
theorem gMk193 : gMOK 193 := ⟨gTb7 (p := 157) rfl, gTb1 (p := 12) rfl, fun h => absurd h (by decide), fun _ => gTb7 (p := 155) rfl, fun _ => ⟨gTb7 (p := 156) rfl, by decide⟩, fun h => absurd h (by decide), by decide +kernel, by decide +kernel, by decide +kernel, by decide +kernel⟩
theorem gMk194 : gMOK 194 := ⟨gTb7 (p := 174) rfl, gTb1 (p := 12) rfl, fun h => absurd h (by decide), fun _ => gTb7 (p := 172) rfl, fun _ => ⟨gTb7 (p := 173) rfl, by decide⟩, fun h => absurd h (by decide), by decide +kernel, by decide +kernel, by decide +kernel, by decide +kernel⟩
theorem gMk195 : gMOK 195 := ⟨gTb7 (p := 217) rfl, gTb1 (p := 12) rfl, fun h => absurd h (by decide), fun _ => gTb7 (p := 216) rfl, fun _ => ⟨gSl (p := 72) rfl, by decide⟩, fun h => absurd h (by decide), by decide +kernel, by decide +kernel, by decide +kernel, by decide +kernel⟩
theorem gMk196 : gMOK 196 := ⟨gTb7 (p := 205) rfl, gTb1 (p := 12) rfl, fun h => absurd h (by decide), fun _ => gTb7 (p := 204) rfl, fun _ => ⟨gSl (p := 69) rfl, by decide⟩, fun h => absurd h (by decide), by decide +kernel, by decide +kernel, by decide +kernel, by decide +kernel⟩
theorem gMk197 : gMOK 197 := ⟨gTb7 (p := 209) rfl, gTb1 (p := 12) rfl, fun h => absurd h (by decide), fun _ => gTb7 (p := 208) rfl, fun _ => ⟨gSl (p := 70) rfl, by decide⟩, fun h => absurd h (by decide), by decide +kernel, by decide +kernel, by decide +kernel, by decide +kernel⟩
theorem gMk198 : gMOK 198 := ⟨gTb7 (p := 213) rfl, gTb1 (p := 12) rfl, fun h => absurd h (by decide), fun _ => gTb7 (p := 212) rfl, fun _ => ⟨gSl (p := 71) rfl, by decide⟩, fun h => absurd h (by decide), by decide +kernel, by decide +kernel, by decide +kernel, by decide +kernel⟩
theorem gMk199 : gMOK 199 := ⟨gTb7 (p := 189) rfl, gTb1 (p := 12) rfl, fun h => absurd h (by decide), fun _ => gTb7 (p := 188) rfl, fun _ => ⟨gSl (p := 65) rfl, by decide⟩, fun h => absurd h (by decide), by decide +kernel, by decide +kernel, by decide +kernel, by decide +kernel⟩
theorem gMk200 : gMOK 200 := ⟨gTb7 (p := 201) rfl, gTb1 (p := 12) rfl, fun h => absurd h (by decide), fun _ => gTb7 (p := 200) rfl, fun _ => ⟨gSl (p := 68) rfl, by decide⟩, fun h => absurd h (by decide), by decide +kernel, by decide +kernel, by decide +kernel, by decide +kernel⟩
theorem gMk201 : gMOK 201 := ⟨gTb7 (p := 185) rfl, gTb1 (p := 12) rfl, fun h => absurd h (by decide), fun _ => gTb7 (p := 184) rfl, fun _ => ⟨gSl (p := 64) rfl, by decide⟩, fun h => absurd h (by decide), by decide +kernel, by decide +kernel, by decide +kernel, by decide +kernel⟩
theorem gMk202 : gMOK 202 := ⟨gTb8 (p := 32) rfl, gTb1 (p := 12) rfl, fun h => absurd h (by decide), fun _ => gTb8 (p := 31) rfl, fun _ => ⟨gSl (p := 75) rfl, by decide⟩, fun h => absurd h (by decide), by decide +kernel, by decide +kernel, by decide +kernel, by decide +kernel⟩
theorem gMk203 : gMOK 203 := ⟨gTb7 (p := 181) rfl, gTb1 (p := 12) rfl, fun _ => gTb7 (p := 180) rfl, fun h => absurd rfl h, fun h => absurd h (by decide), fun h => absurd h (by decide), by decide +kernel, by decide +kernel, by decide +kernel, by decide +kernel⟩
theorem gMk204 : gMOK 204 := ⟨gTb7 (p := 178) rfl, gTb1 (p := 12) rfl, fun h => absurd h (by decide), fun _ => gTb7 (p := 176) rfl, fun _ => ⟨gTb7 (p := 177) rfl, by decide⟩, fun h => absurd h (by decide), by decide +kernel, by decide +kernel, by decide +kernel, by decide +kernel⟩
theorem gMk205 : gMOK 205 := ⟨gTb7 (p := 228) rfl, gTb1 (p := 12) rfl, fun h => absurd h (by decide), fun _ => gTb7 (p := 226) rfl, fun _ => ⟨gTb7 (p := 227) rfl, by decide⟩, fun h => absurd h (by decide), by decide +kernel, by decide +kernel, by decide +kernel, by decide +kernel⟩
theorem gMk206 : gMOK 206 := ⟨gTb7 (p := 232) rfl, gTb1 (p := 12) rfl, fun h => absurd h (by decide), fun _ => gTb7 (p := 230) rfl, fun _ => ⟨gTb7 (p := 231) rfl, by decide⟩, fun h => absurd h (by decide), by decide +kernel, by decide +kernel, by decide +kernel, by decide +kernel⟩
theorem gMk207 : gMOK 207 := ⟨gTb7 (p := 236) rfl, gTb1 (p := 12) rfl, fun h => absurd h (by decide), fun _ => gTb7 (p := 234) rfl, fun _ => ⟨gTb7 (p := 235) rfl, by decide⟩, fun h => absurd h (by decide), by decide +kernel, by decide +kernel, by decide +kernel, by decide +kernel⟩
theorem gMk208 : gMOK 208 := ⟨gTb8 (p := 0) rfl, gTb1 (p := 12) rfl, fun h => absurd h (by decide), fun _ => gTb7 (p := 238) rfl, fun _ => ⟨gTb7 (p := 239) rfl, by decide⟩, fun h => absurd h (by decide), by decide +kernel, by decide +kernel, by decide +kernel, by decide +kernel⟩
theorem gMk209 : gMOK 209 := ⟨gTb8 (p := 4) rfl, gTb1 (p := 12) rfl, fun h => absurd h (by decide), fun _ => gTb8 (p := 2) rfl, fun _ => ⟨gTb8 (p := 3) rfl, by decide⟩, fun h => absurd h (by decide), by decide +kernel, by decide +kernel, by decide +kernel, by decide +kernel⟩
theorem gMk210 : gMOK 210 := ⟨gTb8 (p := 12) rfl, gTb1 (p := 12) rfl, fun h => absurd h (by decide), fun _ => gTb8 (p := 11) rfl, fun _ => ⟨gSl (p := 73) rfl, by decide⟩, fun h => absurd h (by decide), by decide +kernel, by decide +kernel, by decide +kernel, by decide +kernel⟩
theorem gMk211 : gMOK 211 := ⟨gTb8 (p := 8) rfl, gTb1 (p := 12) rfl, fun h => absurd h (by decide), fun _ => gTb8 (p := 6) rfl, fun _ => ⟨gTb8 (p := 7) rfl, by decide⟩, fun h => absurd h (by decide), by decide +kernel, by decide +kernel, by decide +kernel, by decide +kernel⟩
theorem gMk212 : gMOK 212 := ⟨gTb8 (p := 16) rfl, gTb1 (p := 12) rfl, fun h => absurd h (by decide), fun _ => gTb8 (p := 14) rfl, fun _ => ⟨gTb8 (p := 15) rfl, by decide⟩, fun h => absurd h (by decide), by decide +kernel, by decide +kernel, by decide +kernel, by decide +kernel⟩
theorem gMk213 : gMOK 213 := ⟨gTb8 (p := 24) rfl, gTb1 (p := 12) rfl, fun h => absurd h (by decide), fun _ => gTb8 (p := 23) rfl, fun _ => ⟨gSl (p := 74) rfl, by decide⟩, fun h => absurd h (by decide), by decide +kernel, by decide +kernel, by decide +kernel, by decide +kernel⟩
theorem gMk214 : gMOK 214 := ⟨gTb8 (p := 20) rfl, gTb1 (p := 12) rfl, fun h => absurd h (by decide), fun _ => gTb8 (p := 18) rfl, fun _ => ⟨gTb8 (p := 19) rfl, by decide⟩, fun h => absurd h (by decide), by decide +kernel, by decide +kernel, by decide +kernel, by decide +kernel⟩
theorem gMk215 : gMOK 215 := ⟨gTb8 (p := 28) rfl, gTb1 (p := 12) rfl, fun h => absurd h (by decide), fun _ => gTb8 (p := 26) rfl, fun _ => ⟨gTb8 (p := 27) rfl, by decide⟩, fun h => absurd h (by decide), by decide +kernel, by decide +kernel, by decide +kernel, by decide +kernel⟩
theorem gMk216 : gMOK 216 := ⟨gTb8 (p := 44) rfl, gTb1 (p := 12) rfl, fun h => absurd h (by decide), fun _ => gTb8 (p := 43) rfl, fun _ => ⟨gSl (p := 77) rfl, by decide⟩, fun h => absurd h (by decide), by decide +kernel, by decide +kernel, by decide +kernel, by decide +kernel⟩
theorem gMk217 : gMOK 217 := ⟨gTb8 (p := 40) rfl, gTb1 (p := 12) rfl, fun h => absurd h (by decide), fun _ => gTb8 (p := 39) rfl, fun _ => ⟨gSl (p := 76) rfl, by decide⟩, fun h => absurd h (by decide), by decide +kernel, by decide +kernel, by decide +kernel, by decide +kernel⟩
theorem gMk218 : gMOK 218 := ⟨gTb8 (p := 49) rfl, gTb1 (p := 12) rfl, fun h => absurd h (by decide), fun _ => gTb8 (p := 48) rfl, fun _ => ⟨gSl (p := 78) rfl, by decide⟩, fun h => absurd h (by decide), by decide +kernel, by decide +kernel, by decide +kernel, by decide +kernel⟩
theorem gMk219 : gMOK 219 := ⟨gTb8 (p := 36) rfl, gTb1 (p := 12) rfl, fun h => absurd h (by decide), fun _ => gTb8 (p := 34) rfl, fun _ => ⟨gTb8 (p := 35) rfl, by decide⟩, fun h => absurd h (by decide), by decide +kernel, by decide +kernel, by decide +kernel, by decide +kernel⟩
theorem gMk220 : gMOK 220 := ⟨gTb8 (p := 53) rfl, gTb1 (p := 12) rfl, fun h => absurd h (by decide), fun _ => gTb8 (p := 51) rfl, fun _ => ⟨gTb8 (p := 52) rfl, by decide⟩, fun h => absurd h (by decide), by decide +kernel, by decide +kernel, by decide +kernel, by decide +kernel⟩
theorem gMk221 : gMOK 221 := ⟨gTb8 (p := 57) rfl, gTb1 (p := 12) rfl, fun h => absurd h (by decide), fun _ => gTb8 (p := 55) rfl, fun _ => ⟨gTb8 (p := 56) rfl, by decide⟩, fun h => absurd h (by decide), by decide +kernel, by decide +kernel, by decide +kernel, by decide +kernel⟩
theorem gMk222 : gMOK 222 := ⟨gTb8 (p := 61) rfl, gTb1 (p := 12) rfl, fun h => absurd h (by decide), fun _ => gTb8 (p := 59) rfl, fun _ => ⟨gTb8 (p := 60) rfl, by decide⟩, fun h => absurd h (by decide), by decide +kernel, by decide +kernel, by decide +kernel, by decide +kernel⟩
theorem gMk223 : gMOK 223 := ⟨gTb8 (p := 68) rfl, gTb1 (p := 12) rfl, fun _ => gTb8 (p := 67) rfl, fun h => absurd rfl h, fun h => absurd h (by decide), fun h => absurd h (by decide), by decide +kernel, by decide +kernel, by decide +kernel, by decide +kernel⟩
theorem gMk224 : gMOK 224 := ⟨gTb8 (p := 65) rfl, gTb1 (p := 12) rfl, fun h => absurd h (by decide), fun _ => gTb8 (p := 63) rfl, fun _ => ⟨gTb8 (p := 64) rfl, by decide⟩, fun h => absurd h (by decide), by decide +kernel, by decide +kernel, by decide +kernel, by decide +kernel⟩
theorem gMk225 : gMOK 225 := ⟨gTb8 (p := 72) rfl, gTb1 (p := 12) rfl, fun h => absurd h (by decide), fun _ => gTb8 (p := 70) rfl, fun _ => ⟨gTb8 (p := 71) rfl, by decide⟩, fun h => absurd h (by decide), by decide +kernel, by decide +kernel, by decide +kernel, by decide +kernel⟩
theorem gMk226 : gMOK 226 := ⟨gTb8 (p := 76) rfl, gTb1 (p := 12) rfl, fun h => absurd h (by decide), fun _ => gTb8 (p := 74) rfl, fun _ => ⟨gTb8 (p := 75) rfl, by decide⟩, fun h => absurd h (by decide), by decide +kernel, by decide +kernel, by decide +kernel, by decide +kernel⟩
theorem gMk227 : gMOK 227 := ⟨gTb8 (p := 80) rfl, gTb1 (p := 12) rfl, fun h => absurd h (by decide), fun _ => gTb8 (p := 78) rfl, fun _ => ⟨gTb8 (p := 79) rfl, by decide⟩, fun h => absurd h (by decide), by decide +kernel, by decide +kernel, by decide +kernel, by decide +kernel⟩
theorem gMk228 : gMOK 228 := ⟨gTb8 (p := 88) rfl, gTb1 (p := 12) rfl, fun h => absurd h (by decide), fun _ => gTb8 (p := 87) rfl, fun _ => ⟨gSl (p := 79) rfl, by decide⟩, fun h => absurd h (by decide), by decide +kernel, by decide +kernel, by decide +kernel, by decide +kernel⟩
theorem gMk229 : gMOK 229 := ⟨gTb8 (p := 84) rfl, gTb1 (p := 12) rfl, fun h => absurd h (by decide), fun _ => gTb8 (p := 82) rfl, fun _ => ⟨gTb8 (p := 83) rfl, by decide⟩, fun h => absurd h (by decide), by decide +kernel, by decide +kernel, by decide +kernel, by decide +kernel⟩
theorem gMk230 : gMOK 230 := ⟨gTb8 (p := 92) rfl, gTb1 (p := 12) rfl, fun h => absurd h (by decide), fun _ => gTb8 (p := 90) rfl, fun _ => ⟨gTb8 (p := 91) rfl, by decide⟩, fun h => absurd h (by decide), by decide +kernel, by decide +kernel, by decide +kernel, by decide +kernel⟩
theorem gMk231 : gMOK 231 := ⟨gTb8 (p := 96) rfl, gTb1 (p := 12) rfl, fun h => absurd h (by decide), fun _ => gTb8 (p := 94) rfl, fun _ => ⟨gTb8 (p := 95) rfl, by decide⟩, fun h => absurd h (by decide), by decide +kernel, by decide +kernel, by decide +kernel, by decide +kernel⟩
theorem gMk232 : gMOK 232 := ⟨gTb8 (p := 108) rfl, gTb1 (p := 12) rfl, fun h => absurd h (by decide), fun _ => gTb8 (p := 107) rfl, fun _ => ⟨gSl (p := 81) rfl, by decide⟩, fun h => absurd h (by decide), by decide +kernel, by decide +kernel, by decide +kernel, by decide +kernel⟩
theorem gMk233 : gMOK 233 := ⟨gTb8 (p := 104) rfl, gTb1 (p := 12) rfl, fun h => absurd h (by decide), fun _ => gTb8 (p := 103) rfl, fun _ => ⟨gSl (p := 80) rfl, by decide⟩, fun h => absurd h (by decide), by decide +kernel, by decide +kernel, by decide +kernel, by decide +kernel⟩
theorem gMk234 : gMOK 234 := ⟨gTb8 (p := 100) rfl, gTb1 (p := 12) rfl, fun h => absurd h (by decide), fun _ => gTb8 (p := 98) rfl, fun _ => ⟨gTb8 (p := 99) rfl, by decide⟩, fun h => absurd h (by decide), by decide +kernel, by decide +kernel, by decide +kernel, by decide +kernel⟩
theorem gMk235 : gMOK 235 := ⟨gTb8 (p := 112) rfl, gTb1 (p := 12) rfl, fun h => absurd h (by decide), fun _ => gTb8 (p := 110) rfl, fun _ => ⟨gTb8 (p := 111) rfl, by decide⟩, fun h => absurd h (by decide), by decide +kernel, by decide +kernel, by decide +kernel, by decide +kernel⟩
theorem gMk236 : gMOK 236 := ⟨gTb8 (p := 120) rfl, gTb1 (p := 12) rfl, fun h => absurd h (by decide), fun _ => gTb8 (p := 119) rfl, fun _ => ⟨gSl (p := 82) rfl, by decide⟩, fun h => absurd h (by decide), by decide +kernel, by decide +kernel, by decide +kernel, by decide +kernel⟩
theorem gMk237 : gMOK 237 := ⟨gTb8 (p := 116) rfl, gTb1 (p := 12) rfl, fun h => absurd h (by decide), fun _ => gTb8 (p := 114) rfl, fun _ => ⟨gTb8 (p := 115) rfl, by decide⟩, fun h => absurd h (by decide), by decide +kernel, by decide +kernel, by decide +kernel, by decide +kernel⟩
theorem gMk238 : gMOK 238 := ⟨gTb8 (p := 124) rfl, gTb1 (p := 12) rfl, fun h => absurd h (by decide), fun _ => gTb8 (p := 122) rfl, fun _ => ⟨gTb8 (p := 123) rfl, by decide⟩, fun h => absurd h (by decide), by decide +kernel, by decide +kernel, by decide +kernel, by decide +kernel⟩
theorem gMk239 : gMOK 239 := ⟨gTb8 (p := 128) rfl, gTb1 (p := 12) rfl, fun h => absurd h (by decide), fun _ => gTb8 (p := 126) rfl, fun _ => ⟨gTb8 (p := 127) rfl, by decide⟩, fun h => absurd h (by decide), by decide +kernel, by decide +kernel, by decide +kernel, by decide +kernel⟩
theorem gMk240 : gMOK 240 := ⟨gTb8 (p := 132) rfl, gTb1 (p := 12) rfl, fun h => absurd h (by decide), fun _ => gTb8 (p := 130) rfl, fun _ => ⟨gTb8 (p := 131) rfl, by decide⟩, fun h => absurd h (by decide), by decide +kernel, by decide +kernel, by decide +kernel, by decide +kernel⟩
theorem gMk241 : gMOK 241 := ⟨gTb8 (p := 140) rfl, gTb1 (p := 12) rfl, fun h => absurd h (by decide), fun _ => gTb8 (p := 139) rfl, fun _ => ⟨gSl (p := 83) rfl, by decide⟩, fun h => absurd h (by decide), by decide +kernel, by decide +kernel, by decide +kernel, by decide +kernel⟩
theorem gMk242 : gMOK 242 := ⟨gTb8 (p := 136) rfl, gTb1 (p := 12) rfl, fun h => absurd h (by decide), fun _ => gTb8 (p := 134) rfl, fun _ => ⟨gTb8 (p := 135) rfl, by decide⟩, fun h => absurd h (by decide), by decide +kernel, by decide +kernel, by decide +kernel, by decide +kernel⟩
theorem gMk243 : gMOK 243 := ⟨gTb8 (p := 145) rfl, gTb1 (p := 12) rfl, fun h => absurd h (by decide), fun _ => gTb8 (p := 143) rfl, fun _ => ⟨gTb8 (p := 144) rfl, by decide⟩, fun h => absurd h (by decide), by decide +kernel, by decide +kernel, by decide +kernel, by decide +kernel⟩
theorem gMk244 : gMOK 244 := ⟨gTb8 (p := 149) rfl, gTb1 (p := 12) rfl, fun h => absurd h (by decide), fun _ => gTb8 (p := 147) rfl, fun _ => ⟨gTb8 (p := 148) rfl, by decide⟩, fun h => absurd h (by decide), by decide +kernel, by decide +kernel, by decide +kernel, by decide +kernel⟩
theorem gMk245 : gMOK 245 := ⟨gTb8 (p := 153) rfl, gTb1 (p := 12) rfl, fun h => absurd h (by decide), fun _ => gTb8 (p := 151) rfl, fun _ => ⟨gTb8 (p := 152) rfl, by decide⟩, fun h => absurd h (by decide), by decide +kernel, by decide +kernel, by decide +kernel, by decide +kernel⟩
theorem gMk249 : gMOK 249 := ⟨gTb4 (p := 226) rfl, gTb1 (p := 24) rfl, fun _ => gTb4 (p := 225) rfl, fun h => absurd rfl h, fun h => absurd h (by decide), fun h => absurd h (by decide), by decide +kernel, by decide +kernel, by decide +kernel, by decide +kernel⟩
theorem gMk250 : gMOK 250 := ⟨gTb4 (p := 103) rfl, gTb1 (p := 23) rfl, fun _ => gTb4 (p := 102) rfl, fun h => absurd rfl h, fun h => absurd h (by decide), fun h => absurd h (by decide), by decide +kernel, by decide +kernel, by decide +kernel, by decide +kernel⟩
theorem gMk251 : gMOK 251 := ⟨gTb1 (p := 69) rfl, gTb1 (p := 5) rfl, fun _ => gTb1 (p := 68) rfl, fun h => absurd rfl h, fun h => absurd h (by decide), fun h => absurd h (by decide), by decide +kernel, by decide +kernel, by decide +kernel, by decide +kernel⟩
theorem gMk252 : gMOK 252 := ⟨gTb1 (p := 72) rfl, gTb1 (p := 5) rfl, fun _ => gTb1 (p := 71) rfl, fun h => absurd rfl h, fun h => absurd h (by decide), fun h => absurd h (by decide), by decide +kernel, by decide +kernel, by decide +kernel, by decide +kernel⟩
theorem gLwE {mi : Nat} {P : Prop} (h : gLw mi = true) : gLw mi = false → P := fun q => absurd (h.symm.trans q) (by decide)
theorem gMa_16 : ∀ a, a < 16 → (gLw a = false → gMOK a) := lt_s (lt_s (lt_s (lt_s (lt_s (lt_s (lt_s (lt_s (lt_s (lt_s (lt_s (lt_s (lt_s (lt_s (lt_s (lt_s (lt_0) (gLwE rfl)) (fun _ => gMk1)) (fun _ => gMk2)) (fun _ => gMk3)) (fun _ => gMk4)) (fun _ => gMk5)) (fun _ => gMk6)) (fun _ => gMk7)) (fun _ => gMk8)) (fun _ => gMk9)) (fun _ => gMk10)) (fun _ => gMk11)) (fun _ => gMk12)) (fun _ => gMk13)) (fun _ => gMk14)) (fun _ => gMk15)
theorem gMa_32 : ∀ a, a < 32 → (gLw a = false → gMOK a) := lt_s (lt_s (lt_s (lt_s (lt_s (lt_s (lt_s (lt_s (lt_s (lt_s (lt_s (lt_s (lt_s (lt_s (lt_s (lt_s (gMa_16) (fun _ => gMk16)) (fun _ => gMk17)) (fun _ => gMk18)) (fun _ => gMk19)) (fun _ => gMk20)) (fun _ => gMk21)) (fun _ => gMk22)) (fun _ => gMk23)) (fun _ => gMk24)) (fun _ => gMk25)) (fun _ => gMk26)) (fun _ => gMk27)) (fun _ => gMk28)) (fun _ => gMk29)) (fun _ => gMk30)) (fun _ => gMk31)
theorem gMa_48 : ∀ a, a < 48 → (gLw a = false → gMOK a) := lt_s (lt_s (lt_s (lt_s (lt_s (lt_s (lt_s (lt_s (lt_s (lt_s (lt_s (lt_s (lt_s (lt_s (lt_s (lt_s (gMa_32) (fun _ => gMk32)) (fun _ => gMk33)) (fun _ => gMk34)) (fun _ => gMk35)) (fun _ => gMk36)) (fun _ => gMk37)) (fun _ => gMk38)) (fun _ => gMk39)) (fun _ => gMk40)) (fun _ => gMk41)) (fun _ => gMk42)) (fun _ => gMk43)) (fun _ => gMk44)) (fun _ => gMk45)) (fun _ => gMk46)) (fun _ => gMk47)
theorem gMa_64 : ∀ a, a < 64 → (gLw a = false → gMOK a) := lt_s (lt_s (lt_s (lt_s (lt_s (lt_s (lt_s (lt_s (lt_s (lt_s (lt_s (lt_s (lt_s (lt_s (lt_s (lt_s (gMa_48) (fun _ => gMk48)) (fun _ => gMk49)) (fun _ => gMk50)) (fun _ => gMk51)) (fun _ => gMk52)) (fun _ => gMk53)) (fun _ => gMk54)) (fun _ => gMk55)) (fun _ => gMk56)) (fun _ => gMk57)) (fun _ => gMk58)) (fun _ => gMk59)) (fun _ => gMk60)) (fun _ => gMk61)) (fun _ => gMk62)) (fun _ => gMk63)
theorem gMa_80 : ∀ a, a < 80 → (gLw a = false → gMOK a) := lt_s (lt_s (lt_s (lt_s (lt_s (lt_s (lt_s (lt_s (lt_s (lt_s (lt_s (lt_s (lt_s (lt_s (lt_s (lt_s (gMa_64) (fun _ => gMk64)) (fun _ => gMk65)) (fun _ => gMk66)) (fun _ => gMk67)) (fun _ => gMk68)) (fun _ => gMk69)) (fun _ => gMk70)) (fun _ => gMk71)) (fun _ => gMk72)) (fun _ => gMk73)) (fun _ => gMk74)) (fun _ => gMk75)) (fun _ => gMk76)) (fun _ => gMk77)) (fun _ => gMk78)) (fun _ => gMk79)
theorem gMa_96 : ∀ a, a < 96 → (gLw a = false → gMOK a) := lt_s (lt_s (lt_s (lt_s (lt_s (lt_s (lt_s (lt_s (lt_s (lt_s (lt_s (lt_s (lt_s (lt_s (lt_s (lt_s (gMa_80) (fun _ => gMk80)) (fun _ => gMk81)) (fun _ => gMk82)) (fun _ => gMk83)) (fun _ => gMk84)) (fun _ => gMk85)) (fun _ => gMk86)) (fun _ => gMk87)) (fun _ => gMk88)) (fun _ => gMk89)) (fun _ => gMk90)) (fun _ => gMk91)) (fun _ => gMk92)) (fun _ => gMk93)) (fun _ => gMk94)) (fun _ => gMk95)
theorem gMa_112 : ∀ a, a < 112 → (gLw a = false → gMOK a) := lt_s (lt_s (lt_s (lt_s (lt_s (lt_s (lt_s (lt_s (lt_s (lt_s (lt_s (lt_s (lt_s (lt_s (lt_s (lt_s (gMa_96) (fun _ => gMk96)) (fun _ => gMk97)) (fun _ => gMk98)) (fun _ => gMk99)) (fun _ => gMk100)) (fun _ => gMk101)) (fun _ => gMk102)) (fun _ => gMk103)) (fun _ => gMk104)) (fun _ => gMk105)) (fun _ => gMk106)) (fun _ => gMk107)) (fun _ => gMk108)) (fun _ => gMk109)) (fun _ => gMk110)) (fun _ => gMk111)
theorem gMa_128 : ∀ a, a < 128 → (gLw a = false → gMOK a) := lt_s (lt_s (lt_s (lt_s (lt_s (lt_s (lt_s (lt_s (lt_s (lt_s (lt_s (lt_s (lt_s (lt_s (lt_s (lt_s (gMa_112) (fun _ => gMk112)) (fun _ => gMk113)) (fun _ => gMk114)) (fun _ => gMk115)) (fun _ => gMk116)) (fun _ => gMk117)) (fun _ => gMk118)) (fun _ => gMk119)) (fun _ => gMk120)) (fun _ => gMk121)) (fun _ => gMk122)) (fun _ => gMk123)) (fun _ => gMk124)) (fun _ => gMk125)) (fun _ => gMk126)) (fun _ => gMk127)
theorem gMa_144 : ∀ a, a < 144 → (gLw a = false → gMOK a) := lt_s (lt_s (lt_s (lt_s (lt_s (lt_s (lt_s (lt_s (lt_s (lt_s (lt_s (lt_s (lt_s (lt_s (lt_s (lt_s (gMa_128) (fun _ => gMk128)) (fun _ => gMk129)) (fun _ => gMk130)) (fun _ => gMk131)) (fun _ => gMk132)) (fun _ => gMk133)) (fun _ => gMk134)) (fun _ => gMk135)) (fun _ => gMk136)) (fun _ => gMk137)) (fun _ => gMk138)) (fun _ => gMk139)) (fun _ => gMk140)) (fun _ => gMk141)) (fun _ => gMk142)) (fun _ => gMk143)
theorem gMa_160 : ∀ a, a < 160 → (gLw a = false → gMOK a) := lt_s (lt_s (lt_s (lt_s (lt_s (lt_s (lt_s (lt_s (lt_s (lt_s (lt_s (lt_s (lt_s (lt_s (lt_s (lt_s (gMa_144) (fun _ => gMk144)) (fun _ => gMk145)) (fun _ => gMk146)) (fun _ => gMk147)) (fun _ => gMk148)) (fun _ => gMk149)) (fun _ => gMk150)) (fun _ => gMk151)) (fun _ => gMk152)) (fun _ => gMk153)) (fun _ => gMk154)) (fun _ => gMk155)) (fun _ => gMk156)) (fun _ => gMk157)) (fun _ => gMk158)) (fun _ => gMk159)
theorem gMa_176 : ∀ a, a < 176 → (gLw a = false → gMOK a) := lt_s (lt_s (lt_s (lt_s (lt_s (lt_s (lt_s (lt_s (lt_s (lt_s (lt_s (lt_s (lt_s (lt_s (lt_s (lt_s (gMa_160) (fun _ => gMk160)) (fun _ => gMk161)) (fun _ => gMk162)) (fun _ => gMk163)) (fun _ => gMk164)) (fun _ => gMk165)) (fun _ => gMk166)) (fun _ => gMk167)) (fun _ => gMk168)) (fun _ => gMk169)) (fun _ => gMk170)) (fun _ => gMk171)) (fun _ => gMk172)) (fun _ => gMk173)) (fun _ => gMk174)) (fun _ => gMk175)
theorem gMa_192 : ∀ a, a < 192 → (gLw a = false → gMOK a) := lt_s (lt_s (lt_s (lt_s (lt_s (lt_s (lt_s (lt_s (lt_s (lt_s (lt_s (lt_s (lt_s (lt_s (lt_s (lt_s (gMa_176) (fun _ => gMk176)) (fun _ => gMk177)) (fun _ => gMk178)) (fun _ => gMk179)) (fun _ => gMk180)) (fun _ => gMk181)) (fun _ => gMk182)) (fun _ => gMk183)) (fun _ => gMk184)) (fun _ => gMk185)) (fun _ => gMk186)) (fun _ => gMk187)) (fun _ => gMk188)) (fun _ => gMk189)) (fun _ => gMk190)) (fun _ => gMk191)
theorem gMa_208 : ∀ a, a < 208 → (gLw a = false → gMOK a) := lt_s (lt_s (lt_s (lt_s (lt_s (lt_s (lt_s (lt_s (lt_s (lt_s (lt_s (lt_s (lt_s (lt_s (lt_s (lt_s (gMa_192) (fun _ => gMk192)) (fun _ => gMk193)) (fun _ => gMk194)) (fun _ => gMk195)) (fun _ => gMk196)) (fun _ => gMk197)) (fun _ => gMk198)) (fun _ => gMk199)) (fun _ => gMk200)) (fun _ => gMk201)) (fun _ => gMk202)) (fun _ => gMk203)) (fun _ => gMk204)) (fun _ => gMk205)) (fun _ => gMk206)) (fun _ => gMk207)
theorem gMa_224 : ∀ a, a < 224 → (gLw a = false → gMOK a) := lt_s (lt_s (lt_s (lt_s (lt_s (lt_s (lt_s (lt_s (lt_s (lt_s (lt_s (lt_s (lt_s (lt_s (lt_s (lt_s (gMa_208) (fun _ => gMk208)) (fun _ => gMk209)) (fun _ => gMk210)) (fun _ => gMk211)) (fun _ => gMk212)) (fun _ => gMk213)) (fun _ => gMk214)) (fun _ => gMk215)) (fun _ => gMk216)) (fun _ => gMk217)) (fun _ => gMk218)) (fun _ => gMk219)) (fun _ => gMk220)) (fun _ => gMk221)) (fun _ => gMk222)) (fun _ => gMk223)
theorem gMa_240 : ∀ a, a < 240 → (gLw a = false → gMOK a) := lt_s (lt_s (lt_s (lt_s (lt_s (lt_s (lt_s (lt_s (lt_s (lt_s (lt_s (lt_s (lt_s (lt_s (lt_s (lt_s (gMa_224) (fun _ => gMk224)) (fun _ => gMk225)) (fun _ => gMk226)) (fun _ => gMk227)) (fun _ => gMk228)) (fun _ => gMk229)) (fun _ => gMk230)) (fun _ => gMk231)) (fun _ => gMk232)) (fun _ => gMk233)) (fun _ => gMk234)) (fun _ => gMk235)) (fun _ => gMk236)) (fun _ => gMk237)) (fun _ => gMk238)) (fun _ => gMk239)
theorem gMa_253 : ∀ a, a < 253 → (gLw a = false → gMOK a) := lt_s (lt_s (lt_s (lt_s (lt_s (lt_s (lt_s (lt_s (lt_s (lt_s (lt_s (lt_s (lt_s (gMa_240) (fun _ => gMk240)) (fun _ => gMk241)) (fun _ => gMk242)) (fun _ => gMk243)) (fun _ => gMk244)) (fun _ => gMk245)) (gLwE rfl)) (gLwE rfl)) (gLwE rfl)) (fun _ => gMk249)) (fun _ => gMk250)) (fun _ => gMk251)) (fun _ => gMk252)
end
section
def mLen : Instr → Nat
  | .bipush _ => 2
  | .ldc _ => 2
  | .iload _ => 2
  | .lload _ => 2
  | .aload _ => 2
  | .istore _ => 2
  | .lstore _ => 2
  | .astore _ => 2
  | .newarray _ => 2
  | .sipush _ => 3
  | .ldc_w _ => 3
  | .ldc2_w _ => 3
  | .iinc _ _ => 3
  | .getfield _ => 3
  | .putfield _ => 3
  | .anewarray _ => 3
  | .new _ => 3
  | .invokespecial _ => 3
  | .invokestatic _ => 3
  | .invokevirtual _ => 3
  | .goto _ => 3
  | .ifCond _ _ => 3
  | .if_icmp _ _ => 3
  | .ifnonnull _ => 3
  | .tableswitch _ _ _ _ => 0
  | _ => 1
def mFwd (pc : Nat) : Instr → Bool
  | .goto o => decide (0 ≤ (pc : Int) + o)
  | .ifCond _ o => decide (0 ≤ (pc : Int) + o)
  | .if_icmp _ o => decide (0 ≤ (pc : Int) + o)
  | .ifnonnull o => decide (0 ≤ (pc : Int) + o)
  | .tableswitch d _ _ os => decide (0 ≤ (pc : Int) + d) && os.toList.all (fun o => decide (0 ≤ (pc : Int) + o))
  | _ => true
def gDck (cc : ByteArray) (e : Nat × Instr × Nat) : Bool := decide (decode cc e.1 = .ok (e.2.1, e.2.2)) && mFwd e.1 e.2.1 && (decide (mLen e.2.1 = e.2.2) || decide (mLen e.2.1 = 0))
end
section
theorem gCu {α : Type} {f : α → Bool} {l : List α} (k q : Nat) (h1 : ((l.drop q).take k).all f = true) (h2 : (l.drop (q + k)).all f = true) : (l.drop q).all f = true := by
  rw [← List.take_append_drop k (l.drop q), List.all_append, h1, List.drop_drop]
  simpa using h2
theorem gCu0 {α : Type} {f : α → Bool} {l : List α} (h : (l.drop 0).all f = true) : l.all f = true := h
set_option maxRecDepth 100000 in
theorem gD0_0 : ((gC0.drop 0).take 16).all (gDck cL_law) = true := by decide +kernel
set_option maxRecDepth 100000 in
theorem gD0_1 : ((gC0.drop 16).take 16).all (gDck cL_law) = true := by decide +kernel
set_option maxRecDepth 100000 in
theorem gD0_2 : ((gC0.drop 32).take 16).all (gDck cL_law) = true := by decide +kernel
set_option maxRecDepth 100000 in
theorem gD0_3 : ((gC0.drop 48).take 16).all (gDck cL_law) = true := by decide +kernel
set_option maxRecDepth 100000 in
theorem gD0_4 : ((gC0.drop 64).take 16).all (gDck cL_law) = true := by decide +kernel
set_option maxRecDepth 100000 in
theorem gD0_5 : ((gC0.drop 80).take 16).all (gDck cL_law) = true := by decide +kernel
set_option maxRecDepth 100000 in
theorem gD0_6 : ((gC0.drop 96).take 16).all (gDck cL_law) = true := by decide +kernel
set_option maxRecDepth 100000 in
theorem gD0_7 : ((gC0.drop 112).take 16).all (gDck cL_law) = true := by decide +kernel
set_option maxRecDepth 100000 in
theorem gD0_8 : ((gC0.drop 128).take 16).all (gDck cL_law) = true := by decide +kernel
set_option maxRecDepth 100000 in
theorem gD0_9 : ((gC0.drop 144).take 16).all (gDck cL_law) = true := by decide +kernel
set_option maxRecDepth 100000 in
theorem gD0_10 : ((gC0.drop 160).take 16).all (gDck cL_law) = true := by decide +kernel
set_option maxRecDepth 100000 in
theorem gD0_11 : ((gC0.drop 176).take 16).all (gDck cL_law) = true := by decide +kernel
set_option maxRecDepth 100000 in
theorem gD0_12 : ((gC0.drop 192).take 16).all (gDck cL_law) = true := by decide +kernel
set_option maxRecDepth 100000 in
theorem gD0_13 : ((gC0.drop 208).take 16).all (gDck cL_law) = true := by decide +kernel
set_option maxRecDepth 100000 in
theorem gD0_14 : ((gC0.drop 224).take 16).all (gDck cL_law) = true := by decide +kernel
set_option maxRecDepth 100000 in
theorem gD0_15 : ((gC0.drop 240).take 16).all (gDck cL_law) = true := by decide +kernel
set_option maxRecDepth 100000 in
theorem gD0_16 : ((gC0.drop 256).take 16).all (gDck cL_law) = true := by decide +kernel
set_option maxRecDepth 100000 in
theorem gD0_17 : ((gC0.drop 272).take 16).all (gDck cL_law) = true := by decide +kernel
set_option maxRecDepth 100000 in
theorem gD0_18 : ((gC0.drop 288).take 16).all (gDck cL_law) = true := by decide +kernel
set_option maxRecDepth 100000 in
theorem gD0_19 : ((gC0.drop 304).take 16).all (gDck cL_law) = true := by decide +kernel
set_option maxRecDepth 100000 in
theorem gD0_20 : ((gC0.drop 320).take 16).all (gDck cL_law) = true := by decide +kernel
set_option maxRecDepth 100000 in
theorem gD0_21 : ((gC0.drop 336).take 16).all (gDck cL_law) = true := by decide +kernel
set_option maxRecDepth 100000 in
theorem gD0_22 : ((gC0.drop 352).take 16).all (gDck cL_law) = true := by decide +kernel
set_option maxRecDepth 100000 in
theorem gD0_23 : ((gC0.drop 368).take 16).all (gDck cL_law) = true := by decide +kernel
set_option maxRecDepth 100000 in
theorem gD0_24 : ((gC0.drop 384).take 16).all (gDck cL_law) = true := by decide +kernel
set_option maxRecDepth 100000 in
theorem gD0_25 : ((gC0.drop 400).take 16).all (gDck cL_law) = true := by decide +kernel
set_option maxRecDepth 100000 in
theorem gD0_26 : ((gC0.drop 416).take 16).all (gDck cL_law) = true := by decide +kernel
set_option maxRecDepth 100000 in
theorem gD0_27 : ((gC0.drop 432).take 16).all (gDck cL_law) = true := by decide +kernel
set_option maxRecDepth 100000 in
theorem gD0_28 : ((gC0.drop 448).take 16).all (gDck cL_law) = true := by decide +kernel
set_option maxRecDepth 100000 in
theorem gD0_29 : ((gC0.drop 464).take 16).all (gDck cL_law) = true := by decide +kernel
set_option maxRecDepth 100000 in
theorem gD0_30 : ((gC0.drop 480).take 16).all (gDck cL_law) = true := by decide +kernel
set_option maxRecDepth 100000 in
theorem gD0_31 : ((gC0.drop 496).take 16).all (gDck cL_law) = true := by decide +kernel
set_option maxRecDepth 100000 in
theorem gD0_32 : ((gC0.drop 512).take 16).all (gDck cL_law) = true := by decide +kernel
set_option maxRecDepth 100000 in
theorem gD0_33 : ((gC0.drop 528).take 16).all (gDck cL_law) = true := by decide +kernel
set_option maxRecDepth 100000 in
theorem gD0_34 : ((gC0.drop 544).take 16).all (gDck cL_law) = true := by decide +kernel
set_option maxRecDepth 100000 in
theorem gD0_35 : ((gC0.drop 560).take 16).all (gDck cL_law) = true := by decide +kernel
set_option maxRecDepth 100000 in
theorem gD0_36 : ((gC0.drop 576).take 16).all (gDck cL_law) = true := by decide +kernel
set_option maxRecDepth 100000 in
theorem gD0_37 : ((gC0.drop 592).take 16).all (gDck cL_law) = true := by decide +kernel
set_option maxRecDepth 100000 in
theorem gD0_38 : ((gC0.drop 608).take 16).all (gDck cL_law) = true := by decide +kernel
set_option maxRecDepth 100000 in
theorem gD0_39 : ((gC0.drop 624).take 16).all (gDck cL_law) = true := by decide +kernel
set_option maxRecDepth 100000 in
theorem gD0_40 : ((gC0.drop 640).take 16).all (gDck cL_law) = true := by decide +kernel
set_option maxRecDepth 100000 in
theorem gD0_41 : ((gC0.drop 656).take 16).all (gDck cL_law) = true := by decide +kernel
set_option maxRecDepth 100000 in
theorem gD0_42 : ((gC0.drop 672).take 16).all (gDck cL_law) = true := by decide +kernel
set_option maxRecDepth 100000 in
theorem gD0_43 : ((gC0.drop 688).take 16).all (gDck cL_law) = true := by decide +kernel
set_option maxRecDepth 100000 in
theorem gD0_44 : ((gC0.drop 704).take 16).all (gDck cL_law) = true := by decide +kernel
set_option maxRecDepth 100000 in
theorem gD0_45 : ((gC0.drop 720).take 16).all (gDck cL_law) = true := by decide +kernel
set_option maxRecDepth 100000 in
theorem gD0_46 : ((gC0.drop 736).take 16).all (gDck cL_law) = true := by decide +kernel
set_option maxRecDepth 100000 in
theorem gD0_47 : ((gC0.drop 752).take 16).all (gDck cL_law) = true := by decide +kernel
set_option maxRecDepth 100000 in
theorem gD0_48 : ((gC0.drop 768).take 16).all (gDck cL_law) = true := by decide +kernel
set_option maxRecDepth 100000 in
theorem gD0_49 : ((gC0.drop 784).take 16).all (gDck cL_law) = true := by decide +kernel
set_option maxRecDepth 100000 in
theorem gD0_50 : ((gC0.drop 800).take 16).all (gDck cL_law) = true := by decide +kernel
set_option maxRecDepth 100000 in
theorem gD0_51 : ((gC0.drop 816).take 16).all (gDck cL_law) = true := by decide +kernel
set_option maxRecDepth 100000 in
theorem gD0_52 : ((gC0.drop 832).take 16).all (gDck cL_law) = true := by decide +kernel
set_option maxRecDepth 100000 in
theorem gD0_53 : ((gC0.drop 848).take 16).all (gDck cL_law) = true := by decide +kernel
set_option maxRecDepth 100000 in
theorem gD0_54 : (gC0.drop 864).all (gDck cL_law) = true := by decide +kernel
theorem gD0 : gC0.all (gDck cL_law) = true := gCu0 (gCu 16 0 gD0_0 (gCu 16 16 gD0_1 (gCu 16 32 gD0_2 (gCu 16 48 gD0_3 (gCu 16 64 gD0_4 (gCu 16 80 gD0_5 (gCu 16 96 gD0_6 (gCu 16 112 gD0_7 (gCu 16 128 gD0_8 (gCu 16 144 gD0_9 (gCu 16 160 gD0_10 (gCu 16 176 gD0_11 (gCu 16 192 gD0_12 (gCu 16 208 gD0_13 (gCu 16 224 gD0_14 (gCu 16 240 gD0_15 (gCu 16 256 gD0_16 (gCu 16 272 gD0_17 (gCu 16 288 gD0_18 (gCu 16 304 gD0_19 (gCu 16 320 gD0_20 (gCu 16 336 gD0_21 (gCu 16 352 gD0_22 (gCu 16 368 gD0_23 (gCu 16 384 gD0_24 (gCu 16 400 gD0_25 (gCu 16 416 gD0_26 (gCu 16 432 gD0_27 (gCu 16 448 gD0_28 (gCu 16 464 gD0_29 (gCu 16 480 gD0_30 (gCu 16 496 gD0_31 (gCu 16 512 gD0_32 (gCu 16 528 gD0_33 (gCu 16 544 gD0_34 (gCu 16 560 gD0_35 (gCu 16 576 gD0_36 (gCu 16 592 gD0_37 (gCu 16 608 gD0_38 (gCu 16 624 gD0_39 (gCu 16 640 gD0_40 (gCu 16 656 gD0_41 (gCu 16 672 gD0_42 (gCu 16 688 gD0_43 (gCu 16 704 gD0_44 (gCu 16 720 gD0_45 (gCu 16 736 gD0_46 (gCu 16 752 gD0_47 (gCu 16 768 gD0_48 (gCu 16 784 gD0_49 (gCu 16 800 gD0_50 (gCu 16 816 gD0_51 (gCu 16 832 gD0_52 (gCu 16 848 gD0_53 (gD0_54)))))))))))))))))))))))))))))))))))))))))))))))))))))))
set_option maxRecDepth 100000 in
theorem gD1 : gC1.all (gDck cX0_init) = true := by decide +kernel
set_option maxRecDepth 100000 in
theorem gD2 : gC2.all (gDck cX0_readCues) = true := by decide +kernel
set_option maxRecDepth 100000 in
theorem gD3 : gC3.all (gDck cX0_readCue) = true := by decide +kernel
set_option maxRecDepth 100000 in
theorem gD4 : gC4.all (gDck cX0_readSeat) = true := by decide +kernel
set_option maxRecDepth 100000 in
theorem gD5 : gC5.all (gDck cX1_init) = true := by decide +kernel
set_option maxRecDepth 100000 in
theorem gD6 : gC6.all (gDck cX1_forget) = true := by decide +kernel
set_option maxRecDepth 100000 in
theorem gD7 : gC7.all (gDck cX1_reach) = true := by decide +kernel
set_option maxRecDepth 100000 in
theorem gD8 : gC8.all (gDck cX1_keep) = true := by decide +kernel
set_option maxRecDepth 100000 in
theorem gD9 : gC9.all (gDck cX1_isUp) = true := by decide +kernel
set_option maxRecDepth 100000 in
theorem gD10 : gC10.all (gDck cX1_height) = true := by decide +kernel
set_option maxRecDepth 100000 in
theorem gD11 : gC11.all (gDck cX1_likeBehind) = true := by decide +kernel
set_option maxRecDepth 100000 in
theorem gD12 : gC12.all (gDck cX1_areAlike) = true := by decide +kernel
set_option maxRecDepth 100000 in
theorem gD13 : gC13.all (gDck cX2_init) = true := by decide +kernel
set_option maxRecDepth 100000 in
theorem gD14 : gC14.all (gDck cX2_clear) = true := by decide +kernel
set_option maxRecDepth 100000 in
theorem gD15 : gC15.all (gDck cX2_takeAll) = true := by decide +kernel
set_option maxRecDepth 100000 in
theorem gD16 : gC16.all (gDck cX2_takeCues) = true := by decide +kernel
set_option maxRecDepth 100000 in
theorem gD17 : gC17.all (gDck cX2_lastEvent) = true := by decide +kernel
set_option maxRecDepth 100000 in
theorem gD18 : gC18.all (gDck cX2_againFrom) = true := by decide +kernel
set_option maxRecDepth 100000 in
theorem gD19 : gC19.all (gDck cX2_isSomebodyPaid) = true := by decide +kernel
set_option maxRecDepth 100000 in
theorem gD20 : gC20.all (gDck cX3_init) = true := by decide +kernel
set_option maxRecDepth 100000 in
theorem gD21 : gC21.all (gDck cX3_clear) = true := by decide +kernel
end
section
set_option maxRecDepth 100000 in
theorem gD22 : gC22.all (gDck cX3_takeAll) = true := by decide +kernel
set_option maxRecDepth 100000 in
theorem gD23 : gC23.all (gDck cX3_cells) = true := by decide +kernel
set_option maxRecDepth 100000 in
theorem gD24 : gC24.all (gDck cX3_isSeat) = true := by decide +kernel
set_option maxRecDepth 100000 in
theorem gD25 : gC25.all (gDck cX3_rowOf) = true := by decide +kernel
set_option maxRecDepth 100000 in
theorem gD26 : gC26.all (gDck cX3_priceOf) = true := by decide +kernel
set_option maxRecDepth 100000 in
theorem gD27 : gC27.all (gDck cX3_leavesOf) = true := by decide +kernel
set_option maxRecDepth 100000 in
theorem gD28 : gC28.all (gDck cX3_rowSet) = true := by decide +kernel
set_option maxRecDepth 100000 in
theorem gD29 : gC29.all (gDck cX3_lastLeaves) = true := by decide +kernel
set_option maxRecDepth 100000 in
theorem gD30 : gC30.all (gDck cX3_exchangeKinds) = true := by decide +kernel
set_option maxRecDepth 100000 in
theorem gD31 : gC31.all (gDck cX3_setKind) = true := by decide +kernel
set_option maxRecDepth 100000 in
theorem gD32 : gC32.all (gDck cX3_survey) = true := by decide +kernel
set_option maxRecDepth 100000 in
theorem gD33_0 : ((gC33.drop 0).take 124).all (gDck cX3_surveyAreas) = true := by decide +kernel
set_option maxRecDepth 100000 in
theorem gD33_1 : (gC33.drop 124).all (gDck cX3_surveyAreas) = true := by decide +kernel
theorem gD33 : gC33.all (gDck cX3_surveyAreas) = true := gCu0 (gCu 124 0 gD33_0 (gD33_1))
set_option maxRecDepth 100000 in
theorem gD34 : gC34.all (gDck cX3_span) = true := by decide +kernel
set_option maxRecDepth 100000 in
theorem gD35 : gC35.all (gDck cX4_init) = true := by decide +kernel
set_option maxRecDepth 100000 in
theorem gD36 : gC36.all (gDck cX4_open) = true := by decide +kernel
set_option maxRecDepth 100000 in
theorem gD37 : gC37.all (gDck cX4_readLine) = true := by decide +kernel
set_option maxRecDepth 100000 in
theorem gD38 : gC38.all (gDck cX4_readRow) = true := by decide +kernel
set_option maxRecDepth 100000 in
theorem gD39 : gC39.all (gDck cX4_isKind) = true := by decide +kernel
set_option maxRecDepth 100000 in
theorem gD40 : gC40.all (gDck cX4_readLaw) = true := by decide +kernel
set_option maxRecDepth 100000 in
theorem gD41 : gC41.all (gDck cX4_readJoined) = true := by decide +kernel
set_option maxRecDepth 100000 in
theorem gD42_0 : ((gC42.drop 0).take 111).all (gDck cX4_readOne) = true := by decide +kernel
set_option maxRecDepth 100000 in
theorem gD42_1 : (gC42.drop 111).all (gDck cX4_readOne) = true := by decide +kernel
theorem gD42 : gC42.all (gDck cX4_readOne) = true := gCu0 (gCu 111 0 gD42_0 (gD42_1))
set_option maxRecDepth 100000 in
theorem gD43 : gC43.all (gDck cX4_readCompare) = true := by decide +kernel
set_option maxRecDepth 100000 in
theorem gD44 : gC44.all (gDck cX4_readPrice) = true := by decide +kernel
set_option maxRecDepth 100000 in
theorem gD45 : gC45.all (gDck cX4_readLeaves) = true := by decide +kernel
set_option maxRecDepth 100000 in
theorem gD46 : gC46.all (gDck cX4_readCarry) = true := by decide +kernel
set_option maxRecDepth 100000 in
theorem gD47 : gC47.all (gDck cX4_readPaid) = true := by decide +kernel
set_option maxRecDepth 100000 in
theorem gD48 : gC48.all (gDck cX4_readRowByRow) = true := by decide +kernel
set_option maxRecDepth 100000 in
theorem gD49 : gC49.all (gDck cX5_init) = true := by decide +kernel
set_option maxRecDepth 100000 in
theorem gD50 : gC50.all (gDck cX5_beAs) = true := by decide +kernel
set_option maxRecDepth 100000 in
theorem gD51 : gC51.all (gDck cX5_doesHold) = true := by decide +kernel
set_option maxRecDepth 100000 in
theorem gD52 : gC52.all (gDck cX5_begin) = true := by decide +kernel
set_option maxRecDepth 100000 in
theorem gD53 : gC53.all (gDck cX5_goTo) = true := by decide +kernel
set_option maxRecDepth 100000 in
theorem gD54 : gC54.all (gDck cX5_heightOf) = true := by decide +kernel
set_option maxRecDepth 100000 in
theorem gD55 : gC55.all (gDck cX5_step) = true := by decide +kernel
set_option maxRecDepth 100000 in
theorem gD56 : gC56.all (gDck cX5_doCues) = true := by decide +kernel
set_option maxRecDepth 100000 in
theorem gD57 : gC57.all (gDck cX5_seeRowsOff) = true := by decide +kernel
set_option maxRecDepth 100000 in
theorem gD58 : gC58.all (gDck cX5_standing) = true := by decide +kernel
set_option maxRecDepth 100000 in
theorem gD59_0 : ((gC59.drop 0).take 101).all (gDck cX5_move) = true := by decide +kernel
set_option maxRecDepth 100000 in
theorem gD59_1 : (gC59.drop 101).all (gDck cX5_move) = true := by decide +kernel
theorem gD59 : gC59.all (gDck cX5_move) = true := gCu0 (gCu 101 0 gD59_0 (gD59_1))
end
section
set_option maxRecDepth 100000 in
theorem gD60 : gC60.all (gDck cX5_hold) = true := by decide +kernel
set_option maxRecDepth 100000 in
theorem gD61 : gC61.all (gDck cX5_joined) = true := by decide +kernel
set_option maxRecDepth 100000 in
theorem gD62_0 : ((gC62.drop 0).take 72).all (gDck cX5_holding) = true := by decide +kernel
set_option maxRecDepth 100000 in
theorem gD62_1 : ((gC62.drop 72).take 72).all (gDck cX5_holding) = true := by decide +kernel
set_option maxRecDepth 100000 in
theorem gD62_2 : (gC62.drop 144).all (gDck cX5_holding) = true := by decide +kernel
theorem gD62 : gC62.all (gDck cX5_holding) = true := gCu0 (gCu 72 0 gD62_0 (gCu 72 72 gD62_1 (gD62_2)))
set_option maxRecDepth 100000 in
theorem gD63 : gC63.all (gDck cX5_levelWithin) = true := by decide +kernel
set_option maxRecDepth 100000 in
theorem gD64 : gC64.all (gDck cX5_heldWithin) = true := by decide +kernel
set_option maxRecDepth 100000 in
theorem gD65 : gC65.all (gDck cX6_init) = true := by decide +kernel
set_option maxRecDepth 100000 in
theorem gD66 : gC66.all (gDck cX6_put) = true := by decide +kernel
set_option maxRecDepth 100000 in
theorem gD67 : gC67.all (gDck cX6_take) = true := by decide +kernel
set_option maxRecDepth 100000 in
theorem gD68 : gC68.all (gDck cX7_init) = true := by decide +kernel
set_option maxRecDepth 100000 in
theorem gD69 : gC69.all (gDck cX7_open) = true := by decide +kernel
set_option maxRecDepth 100000 in
theorem gD70_0 : ((gC70.drop 0).take 71).all (gDck cX7_read) = true := by decide +kernel
set_option maxRecDepth 100000 in
theorem gD70_1 : ((gC70.drop 71).take 71).all (gDck cX7_read) = true := by decide +kernel
set_option maxRecDepth 100000 in
theorem gD70_2 : (gC70.drop 142).all (gDck cX7_read) = true := by decide +kernel
theorem gD70 : gC70.all (gDck cX7_read) = true := gCu0 (gCu 71 0 gD70_0 (gCu 71 71 gD70_1 (gD70_2)))
set_option maxRecDepth 100000 in
theorem gD71 : gC71.all (gDck cX7_size) = true := by decide +kernel
set_option maxRecDepth 100000 in
theorem gD72 : gC72.all (gDck cX7_sign) = true := by decide +kernel
set_option maxRecDepth 100000 in
theorem gD73 : gC73.all (gDck cX7_among) = true := by decide +kernel
set_option maxRecDepth 100000 in
theorem gD74 : gC74.all (gDck cX7_isSameWord) = true := by decide +kernel
set_option maxRecDepth 100000 in
theorem gD75 : gC75.all (gDck cX7_fail) = true := by decide +kernel
set_option maxRecDepth 100000 in
theorem gD76 : gC76.all (gDck cX7_isNumberWithin) = true := by decide +kernel
set_option maxRecDepth 100000 in
theorem gD77 : gC77.all (gDck cX7_takeNumber) = true := by decide +kernel
set_option maxRecDepth 100000 in
theorem gD78 : gC78.all (gDck cX7_pass) = true := by decide +kernel
set_option maxRecDepth 100000 in
theorem gD79 : gC79.all (gDck cX8_init) = true := by decide +kernel
set_option maxRecDepth 100000 in
theorem gD80 : gC80.all (gDck cX8_areHands) = true := by decide +kernel
set_option maxRecDepth 100000 in
theorem gD81 : gC81.all (gDck cX8_areUnlikeSeats) = true := by decide +kernel
set_option maxRecDepth 100000 in
theorem gD82 : gC82.all (gDck cX8_seatsOf) = true := by decide +kernel
set_option maxRecDepth 100000 in
theorem gD83 : gC83.all (gDck cX8_priceOfSet) = true := by decide +kernel
set_option maxRecDepth 100000 in
theorem gD84 : gC84.all (gDck cX8_cheapestOf) = true := by decide +kernel
set_option maxRecDepth 100000 in
theorem gD85 : gC85.all (gDck cX8_hushOf) = true := by decide +kernel
set_option maxRecDepth 100000 in
theorem gD86 : gC86.all (gDck cX8_coalitionsOf) = true := by decide +kernel
set_option maxRecDepth 100000 in
theorem gD87 : gC87.all (gDck cX8_hasFoundPart) = true := by decide +kernel
set_option maxRecDepth 100000 in
theorem gD88 : gC88.all (gDck cX8_worthOfAll) = true := by decide +kernel
set_option maxRecDepth 100000 in
theorem gD89 : gC89.all (gDck cX8_addsOf) = true := by decide +kernel
set_option maxRecDepth 100000 in
theorem gD90 : gC90.all (gDck cX8_factorial) = true := by decide +kernel
set_option maxRecDepth 100000 in
theorem gD91 : gC91.all (gDck cX8_commonDivisor) = true := by decide +kernel
set_option maxRecDepth 100000 in
theorem gD92_0 : ((gC92.drop 0).take 105).all (gDck cX8_sidesOf) = true := by decide +kernel
set_option maxRecDepth 100000 in
theorem gD92_1 : (gC92.drop 105).all (gDck cX8_sidesOf) = true := by decide +kernel
theorem gD92 : gC92.all (gDck cX8_sidesOf) = true := gCu0 (gCu 105 0 gD92_0 (gD92_1))
set_option maxRecDepth 100000 in
theorem gD93 : gC93.all (gDck cX8_readSketch) = true := by decide +kernel
end
section
set_option maxRecDepth 100000 in
theorem gD94 : gC94.all (gDck cX8_beganBy) = true := by decide +kernel
set_option maxRecDepth 100000 in
theorem gD95 : gC95.all (gDck cX8_isAsSketched) = true := by decide +kernel
set_option maxRecDepth 100000 in
theorem gD96 : gC96.all (gDck cX8_partOf) = true := by decide +kernel
set_option maxRecDepth 100000 in
theorem gD97 : gC97.all (gDck cX8_firstPairAbove) = true := by decide +kernel
set_option maxRecDepth 100000 in
theorem gD98 : gC98.all (gDck cX9_init) = true := by decide +kernel
set_option maxRecDepth 100000 in
theorem gD99 : gC99.all (gDck cX9_feed) = true := by decide +kernel
set_option maxRecDepth 100000 in
theorem gD100 : gC100.all (gDck cX9_end) = true := by decide +kernel
set_option maxRecDepth 100000 in
theorem gD101 : gC101.all (gDck cX9_house) = true := by decide +kernel
set_option maxRecDepth 100000 in
theorem gD102 : gC102.all (gDck cX9_fault) = true := by decide +kernel
set_option maxRecDepth 100000 in
theorem gD103 : gC103.all (gDck cX9_seat) = true := by decide +kernel
set_option maxRecDepth 100000 in
theorem gD104 : gC104.all (gDck cX9_law) = true := by decide +kernel
set_option maxRecDepth 100000 in
theorem gD105 : gC105.all (gDck cX9_pay) = true := by decide +kernel
set_option maxRecDepth 100000 in
theorem gD106 : gC106.all (gDck cX9_hiss) = true := by decide +kernel
set_option maxRecDepth 100000 in
theorem gD107 : gC107.all (gDck cX9_cues) = true := by decide +kernel
set_option maxRecDepth 100000 in
theorem gD108 : gC108.all (gDck cX9_cue) = true := by decide +kernel
set_option maxRecDepth 100000 in
theorem gD109 : gC109.all (gDck cX9_sees) = true := by decide +kernel
set_option maxRecDepth 100000 in
theorem gD110 : gC110.all (gDck cX9_at) = true := by decide +kernel
set_option maxRecDepth 100000 in
theorem gD111 : gC111.all (gDck cX9_many) = true := by decide +kernel
set_option maxRecDepth 100000 in
theorem gD112 : gC112.all (gDck cX9_would) = true := by decide +kernel
set_option maxRecDepth 100000 in
theorem gD113 : gC113.all (gDck cX9_stands) = true := by decide +kernel
set_option maxRecDepth 100000 in
theorem gD114 : gC114.all (gDck cX9_anyway) = true := by decide +kernel
set_option maxRecDepth 100000 in
theorem gD115 : gC115.all (gDck cX9_up) = true := by decide +kernel
set_option maxRecDepth 100000 in
theorem gD116 : gC116.all (gDck cX9_calls) = true := by decide +kernel
set_option maxRecDepth 100000 in
theorem gD117 : gC117.all (gDck cX9_again) = true := by decide +kernel
set_option maxRecDepth 100000 in
theorem gD118 : gC118.all (gDck cX9_carries) = true := by decide +kernel
set_option maxRecDepth 100000 in
theorem gD119 : gC119.all (gDck cX9_cheapest) = true := by decide +kernel
set_option maxRecDepth 100000 in
theorem gD120 : gC120.all (gDck cX9_bought) = true := by decide +kernel
set_option maxRecDepth 100000 in
theorem gD121 : gC121.all (gDck cX9_hush) = true := by decide +kernel
set_option maxRecDepth 100000 in
theorem gD122 : gC122.all (gDck cX9_coalitions) = true := by decide +kernel
set_option maxRecDepth 100000 in
theorem gD123 : gC123.all (gDck cX9_worth) = true := by decide +kernel
set_option maxRecDepth 100000 in
theorem gD124 : gC124.all (gDck cX9_worthOf) = true := by decide +kernel
set_option maxRecDepth 100000 in
theorem gD125 : gC125.all (gDck cX9_sides) = true := by decide +kernel
set_option maxRecDepth 100000 in
theorem gD126 : gC126.all (gDck cX9_side) = true := by decide +kernel
set_option maxRecDepth 100000 in
theorem gD127 : gC127.all (gDck cX9_began) = true := by decide +kernel
set_option maxRecDepth 100000 in
theorem gD128 : gC128.all (gDck cX9_beganAt) = true := by decide +kernel
set_option maxRecDepth 100000 in
theorem gD129 : gC129.all (gDck cX9_parts) = true := by decide +kernel
set_option maxRecDepth 100000 in
theorem gD130 : gC130.all (gDck cX9_exchanged) = true := by decide +kernel
set_option maxRecDepth 100000 in
theorem gD131 : gC131.all (gDck cX9_exchange) = true := by decide +kernel
set_option maxRecDepth 100000 in
theorem gD132 : gC132.all (gDck cX9_starts) = true := by decide +kernel
set_option maxRecDepth 100000 in
theorem gD133 : gC133.all (gDck cX9_leader) = true := by decide +kernel
set_option maxRecDepth 100000 in
theorem gD134 : gC134.all (gDck cX9_drawn) = true := by decide +kernel
set_option maxRecDepth 100000 in
theorem gD135 : gC135.all (gDck cX9_arrange) = true := by decide +kernel
end
section
set_option maxRecDepth 100000 in
theorem gD136 : gC136.all (gDck cX9_arranged) = true := by decide +kernel
set_option maxRecDepth 100000 in
theorem gD137 : gC137.all (gDck cX9_image) = true := by decide +kernel
set_option maxRecDepth 100000 in
theorem gD138 : gC138.all (gDck cX9_restore) = true := by decide +kernel
set_option maxRecDepth 100000 in
theorem gD139 : gC139.all (gDck cX9_count) = true := by decide +kernel
set_option maxRecDepth 100000 in
theorem gD140 : gC140.all (gDck cX9_isLarge) = true := by decide +kernel
set_option maxRecDepth 100000 in
theorem gD141 : gC141.all (gDck cX9_isMoment) = true := by decide +kernel
set_option maxRecDepth 100000 in
theorem gD142 : gC142.all (gDck cX9_bitOf) = true := by decide +kernel
set_option maxRecDepth 100000 in
theorem gD143 : gC143.all (gDck cX9_withBit) = true := by decide +kernel
set_option maxRecDepth 100000 in
theorem gD144 : gC144.all (gDck cX9_withoutNth) = true := by decide +kernel
set_option maxRecDepth 100000 in
theorem gD145 : gC145.all (gDck cX10_thrown) = true := by decide +kernel
set_option maxRecDepth 100000 in
theorem gD146 : gC146.all (gDck cX10_throwsIf) = true := by decide +kernel
set_option maxRecDepth 100000 in
theorem gD147 : gC147.all (gDck cX10_feed) = true := by decide +kernel
set_option maxRecDepth 100000 in
theorem gD148 : gC148.all (gDck cX10_four) = true := by decide +kernel
set_option maxRecDepth 100000 in
theorem gD149 : gC149.all (gDck cX10_end) = true := by decide +kernel
set_option maxRecDepth 100000 in
theorem gD150 : gC150.all (gDck cX10_taken) = true := by decide +kernel
set_option maxRecDepth 100000 in
theorem gD151 : gC151.all (gDck cX10_isIn) = true := by decide +kernel
set_option maxRecDepth 100000 in
theorem gD152 : gC152.all (gDck cX10_has) = true := by decide +kernel
set_option maxRecDepth 100000 in
theorem gD153 : gC153.all (gDck cX10_holds) = true := by decide +kernel
set_option maxRecDepth 100000 in
theorem gD154 : gC154.all (gDck cX10_bits) = true := by decide +kernel
set_option maxRecDepth 100000 in
theorem gD155 : gC155.all (gDck cX10_octet) = true := by decide +kernel
set_option maxRecDepth 100000 in
theorem gD156_0 : ((gC156.drop 0).take 97).all (gDck cX10_init) = true := by decide +kernel
set_option maxRecDepth 100000 in
theorem gD156_1 : (gC156.drop 97).all (gDck cX10_init) = true := by decide +kernel
theorem gD156 : gC156.all (gDck cX10_init) = true := gCu0 (gCu 97 0 gD156_0 (gD156_1))
set_option maxRecDepth 100000 in
theorem gD157 : gC157.all (gDck cX10_plainHouse) = true := by decide +kernel
set_option maxRecDepth 100000 in
theorem gD158 : gC158.all (gDck cX10_peek) = true := by decide +kernel
set_option maxRecDepth 100000 in
theorem gD159 : gC159.all (gDck cX10_isSmall) = true := by decide +kernel
set_option maxRecDepth 100000 in
theorem gD160 : gC160.all (gDck cX10_isDigit) = true := by decide +kernel
set_option maxRecDepth 100000 in
theorem gD161_0 : ((gC161.drop 0).take 71).all (gDck cX10_next) = true := by decide +kernel
set_option maxRecDepth 100000 in
theorem gD161_1 : ((gC161.drop 71).take 71).all (gDck cX10_next) = true := by decide +kernel
set_option maxRecDepth 100000 in
theorem gD161_2 : (gC161.drop 142).all (gDck cX10_next) = true := by decide +kernel
theorem gD161 : gC161.all (gDck cX10_next) = true := gCu0 (gCu 71 0 gD161_0 (gCu 71 71 gD161_1 (gD161_2)))
set_option maxRecDepth 100000 in
theorem gD162 : gC162.all (gDck cX10_bad) = true := by decide +kernel
set_option maxRecDepth 100000 in
theorem gD163 : gC163.all (gDck cX10_isWord) = true := by decide +kernel
set_option maxRecDepth 100000 in
theorem gD164 : gC164.all (gDck cX10_isSign) = true := by decide +kernel
set_option maxRecDepth 100000 in
theorem gD165 : gC165.all (gDck cX10_sign) = true := by decide +kernel
set_option maxRecDepth 100000 in
theorem gD166 : gC166.all (gDck cX10_takes) = true := by decide +kernel
set_option maxRecDepth 100000 in
theorem gD167_0 : ((gC167.drop 0).take 85).all (gDck cX10_line) = true := by decide +kernel
set_option maxRecDepth 100000 in
theorem gD167_1 : (gC167.drop 85).all (gDck cX10_line) = true := by decide +kernel
theorem gD167 : gC167.all (gDck cX10_line) = true := gCu0 (gCu 85 0 gD167_0 (gD167_1))
set_option maxRecDepth 100000 in
theorem gD168 : gC168.all (gDck cX10_once) = true := by decide +kernel
set_option maxRecDepth 100000 in
theorem gD169 : gC169.all (gDck cX10_takesRow) = true := by decide +kernel
set_option maxRecDepth 100000 in
theorem gD170_0 : ((gC170.drop 0).take 100).all (gDck cX10_readRow) = true := by decide +kernel
set_option maxRecDepth 100000 in
theorem gD170_1 : (gC170.drop 100).all (gDck cX10_readRow) = true := by decide +kernel
theorem gD170 : gC170.all (gDck cX10_readRow) = true := gCu0 (gCu 100 0 gD170_0 (gD170_1))
set_option maxRecDepth 100000 in
theorem gD171 : gC171.all (gDck cX10_readLaw) = true := by decide +kernel
set_option maxRecDepth 100000 in
theorem gD172 : gC172.all (gDck cX10_write) = true := by decide +kernel
set_option maxRecDepth 100000 in
theorem gD173 : gC173.all (gDck cX10_writeDown) = true := by decide +kernel
set_option maxRecDepth 100000 in
theorem gD174 : gC174.all (gDck cX10_binds) = true := by decide +kernel
set_option maxRecDepth 100000 in
theorem gD175 : gC175.all (gDck cX10_opened) = true := by decide +kernel
set_option maxRecDepth 100000 in
theorem gD176 : gC176.all (gDck cX10_isOpen) = true := by decide +kernel
set_option maxRecDepth 100000 in
theorem gD177 : gC177.all (gDck cX10_cond) = true := by decide +kernel
set_option maxRecDepth 100000 in
theorem gD178 : gC178.all (gDck cX10_atom) = true := by decide +kernel
set_option maxRecDepth 100000 in
theorem gD179 : gC179.all (gDck cX10_one) = true := by decide +kernel
end
section
set_option maxRecDepth 100000 in
theorem gD180 : gC180.all (gDck cX10_asks) = true := by decide +kernel
set_option maxRecDepth 100000 in
theorem gD181 : gC181.all (gDck cX10_house) = true := by decide +kernel
set_option maxRecDepth 100000 in
theorem gD182 : gC182.all (gDck cX10_fault) = true := by decide +kernel
set_option maxRecDepth 100000 in
theorem gD183 : gC183.all (gDck cX10_isSeat) = true := by decide +kernel
set_option maxRecDepth 100000 in
theorem gD184 : gC184.all (gDck cX10_isSeatAt) = true := by decide +kernel
set_option maxRecDepth 100000 in
theorem gD185 : gC185.all (gDck cX10_bitAt) = true := by decide +kernel
set_option maxRecDepth 100000 in
theorem gD186_0 : ((gC186.drop 0).take 65).all (gDck cX10_layOut) = true := by decide +kernel
set_option maxRecDepth 100000 in
theorem gD186_1 : ((gC186.drop 65).take 65).all (gDck cX10_layOut) = true := by decide +kernel
set_option maxRecDepth 100000 in
theorem gD186_2 : ((gC186.drop 130).take 65).all (gDck cX10_layOut) = true := by decide +kernel
set_option maxRecDepth 100000 in
theorem gD186_3 : (gC186.drop 195).all (gDck cX10_layOut) = true := by decide +kernel
theorem gD186 : gC186.all (gDck cX10_layOut) = true := gCu0 (gCu 65 0 gD186_0 (gCu 65 65 gD186_1 (gCu 65 130 gD186_2 (gD186_3))))
set_option maxRecDepth 100000 in
theorem gD187 : gC187.all (gDck cX10_seat) = true := by decide +kernel
set_option maxRecDepth 100000 in
theorem gD188 : gC188.all (gDck cX10_price) = true := by decide +kernel
set_option maxRecDepth 100000 in
theorem gD189 : gC189.all (gDck cX10_law) = true := by decide +kernel
set_option maxRecDepth 100000 in
theorem gD190 : gC190.all (gDck cX10_pay) = true := by decide +kernel
set_option maxRecDepth 100000 in
theorem gD191 : gC191.all (gDck cX10_hiss) = true := by decide +kernel
set_option maxRecDepth 100000 in
theorem gD192_0 : ((gC192.drop 0).take 91).all (gDck cX10_readCue) = true := by decide +kernel
set_option maxRecDepth 100000 in
theorem gD192_1 : (gC192.drop 91).all (gDck cX10_readCue) = true := by decide +kernel
theorem gD192 : gC192.all (gDck cX10_readCue) = true := gCu0 (gCu 91 0 gD192_0 (gD192_1))
set_option maxRecDepth 100000 in
theorem gD193 : gC193.all (gDck cX10_cues) = true := by decide +kernel
set_option maxRecDepth 100000 in
theorem gD194 : gC194.all (gDck cX10_cue) = true := by decide +kernel
set_option maxRecDepth 100000 in
theorem gD195_0 : ((gC195.drop 0).take 75).all (gDck cX10_isLaw) = true := by decide +kernel
set_option maxRecDepth 100000 in
theorem gD195_1 : ((gC195.drop 75).take 75).all (gDck cX10_isLaw) = true := by decide +kernel
set_option maxRecDepth 100000 in
theorem gD195_2 : (gC195.drop 150).all (gDck cX10_isLaw) = true := by decide +kernel
theorem gD195 : gC195.all (gDck cX10_isLaw) = true := gCu0 (gCu 75 0 gD195_0 (gCu 75 75 gD195_1 (gD195_2)))
set_option maxRecDepth 100000 in
theorem gD196 : gC196.all (gDck cX10_levelOf) = true := by decide +kernel
set_option maxRecDepth 100000 in
theorem gD197 : gC197.all (gDck cX10_heldOf) = true := by decide +kernel
set_option maxRecDepth 100000 in
theorem gD198 : gC198.all (gDck cX10_lawLevel) = true := by decide +kernel
set_option maxRecDepth 100000 in
theorem gD199 : gC199.all (gDck cX10_begin) = true := by decide +kernel
set_option maxRecDepth 100000 in
theorem gD200_0 : ((gC200.drop 0).take 35).all (gDck cX10_moment) = true := by decide +kernel
set_option maxRecDepth 100000 in
theorem gD200_1 : ((gC200.drop 35).take 35).all (gDck cX10_moment) = true := by decide +kernel
set_option maxRecDepth 100000 in
theorem gD200_2 : ((gC200.drop 70).take 35).all (gDck cX10_moment) = true := by decide +kernel
set_option maxRecDepth 100000 in
theorem gD200_3 : ((gC200.drop 105).take 35).all (gDck cX10_moment) = true := by decide +kernel
set_option maxRecDepth 100000 in
theorem gD200_4 : ((gC200.drop 140).take 35).all (gDck cX10_moment) = true := by decide +kernel
set_option maxRecDepth 100000 in
theorem gD200_5 : ((gC200.drop 175).take 35).all (gDck cX10_moment) = true := by decide +kernel
set_option maxRecDepth 100000 in
theorem gD200_6 : ((gC200.drop 210).take 35).all (gDck cX10_moment) = true := by decide +kernel
set_option maxRecDepth 100000 in
theorem gD200_7 : ((gC200.drop 245).take 35).all (gDck cX10_moment) = true := by decide +kernel
set_option maxRecDepth 100000 in
theorem gD200_8 : ((gC200.drop 280).take 35).all (gDck cX10_moment) = true := by decide +kernel
set_option maxRecDepth 100000 in
theorem gD200_9 : ((gC200.drop 315).take 35).all (gDck cX10_moment) = true := by decide +kernel
set_option maxRecDepth 100000 in
theorem gD200_10 : (gC200.drop 350).all (gDck cX10_moment) = true := by decide +kernel
theorem gD200 : gC200.all (gDck cX10_moment) = true := gCu0 (gCu 35 0 gD200_0 (gCu 35 35 gD200_1 (gCu 35 70 gD200_2 (gCu 35 105 gD200_3 (gCu 35 140 gD200_4 (gCu 35 175 gD200_5 (gCu 35 210 gD200_6 (gCu 35 245 gD200_7 (gCu 35 280 gD200_8 (gCu 35 315 gD200_9 (gD200_10)))))))))))
end
section
set_option maxRecDepth 100000 in
theorem gD201 : gC201.all (gDck cX10_night) = true := by decide +kernel
set_option maxRecDepth 100000 in
theorem gD202 : gC202.all (gDck cX10_height) = true := by decide +kernel
set_option maxRecDepth 100000 in
theorem gD203 : gC203.all (gDck cX10_isMoment) = true := by decide +kernel
set_option maxRecDepth 100000 in
theorem gD204 : gC204.all (gDck cX10_sees) = true := by decide +kernel
set_option maxRecDepth 100000 in
theorem gD205 : gC205.all (gDck cX10_at) = true := by decide +kernel
set_option maxRecDepth 100000 in
theorem gD206 : gC206.all (gDck cX10_many) = true := by decide +kernel
set_option maxRecDepth 100000 in
theorem gD207 : gC207.all (gDck cX10_would) = true := by decide +kernel
set_option maxRecDepth 100000 in
theorem gD208 : gC208.all (gDck cX10_stands) = true := by decide +kernel
set_option maxRecDepth 100000 in
theorem gD209 : gC209.all (gDck cX10_anyway) = true := by decide +kernel
set_option maxRecDepth 100000 in
theorem gD210 : gC210.all (gDck cX10_isUp) = true := by decide +kernel
set_option maxRecDepth 100000 in
theorem gD211 : gC211.all (gDck cX10_up) = true := by decide +kernel
set_option maxRecDepth 100000 in
theorem gD212 : gC212.all (gDck cX10_calls) = true := by decide +kernel
set_option maxRecDepth 100000 in
theorem gD213 : gC213.all (gDck cX10_areLike) = true := by decide +kernel
set_option maxRecDepth 100000 in
theorem gD214_0 : ((gC214.drop 0).take 85).all (gDck cX10_again) = true := by decide +kernel
set_option maxRecDepth 100000 in
theorem gD214_1 : (gC214.drop 85).all (gDck cX10_again) = true := by decide +kernel
theorem gD214 : gC214.all (gDck cX10_again) = true := gCu0 (gCu 85 0 gD214_0 (gD214_1))
set_option maxRecDepth 100000 in
theorem gD215 : gC215.all (gDck cX10_carries) = true := by decide +kernel
set_option maxRecDepth 100000 in
theorem gD216 : gC216.all (gDck cX10_takesSeats) = true := by decide +kernel
set_option maxRecDepth 100000 in
theorem gD217 : gC217.all (gDck cX10_areEight) = true := by decide +kernel
set_option maxRecDepth 100000 in
theorem gD218 : gC218.all (gDck cX10_bitsOf) = true := by decide +kernel
set_option maxRecDepth 100000 in
theorem gD219 : gC219.all (gDck cX10_cheapest) = true := by decide +kernel
set_option maxRecDepth 100000 in
theorem gD220 : gC220.all (gDck cX10_bought) = true := by decide +kernel
set_option maxRecDepth 100000 in
theorem gD221 : gC221.all (gDck cX10_hush) = true := by decide +kernel
set_option maxRecDepth 100000 in
theorem gD222 : gC222.all (gDck cX10_coalitions) = true := by decide +kernel
set_option maxRecDepth 100000 in
theorem gD223 : gC223.all (gDck cX10_orders) = true := by decide +kernel
set_option maxRecDepth 100000 in
theorem gD224 : gC224.all (gDck cX10_worth) = true := by decide +kernel
set_option maxRecDepth 100000 in
theorem gD225 : gC225.all (gDck cX10_worthOf) = true := by decide +kernel
set_option maxRecDepth 100000 in
theorem gD226_0 : ((gC226.drop 0).take 73).all (gDck cX10_sides) = true := by decide +kernel
set_option maxRecDepth 100000 in
theorem gD226_1 : ((gC226.drop 73).take 73).all (gDck cX10_sides) = true := by decide +kernel
set_option maxRecDepth 100000 in
theorem gD226_2 : (gC226.drop 146).all (gDck cX10_sides) = true := by decide +kernel
theorem gD226 : gC226.all (gDck cX10_sides) = true := gCu0 (gCu 73 0 gD226_0 (gCu 73 73 gD226_1 (gD226_2)))
set_option maxRecDepth 100000 in
theorem gD227 : gC227.all (gDck cX10_side) = true := by decide +kernel
set_option maxRecDepth 100000 in
theorem gD228 : gC228.all (gDck cX10_isSketch) = true := by decide +kernel
set_option maxRecDepth 100000 in
theorem gD229_0 : ((gC229.drop 0).take 79).all (gDck cX10_began) = true := by decide +kernel
set_option maxRecDepth 100000 in
theorem gD229_1 : ((gC229.drop 79).take 79).all (gDck cX10_began) = true := by decide +kernel
set_option maxRecDepth 100000 in
theorem gD229_2 : (gC229.drop 158).all (gDck cX10_began) = true := by decide +kernel
theorem gD229 : gC229.all (gDck cX10_began) = true := gCu0 (gCu 79 0 gD229_0 (gCu 79 79 gD229_1 (gD229_2)))
end
section
set_option maxRecDepth 100000 in
theorem gD230 : gC230.all (gDck cX10_beganAt) = true := by decide +kernel
set_option maxRecDepth 100000 in
theorem gD231 : gC231.all (gDck cX10_parts) = true := by decide +kernel
set_option maxRecDepth 100000 in
theorem gD232 : gC232.all (gDck cX10_change) = true := by decide +kernel
set_option maxRecDepth 100000 in
theorem gD233 : gC233.all (gDck cX10_areUnlike) = true := by decide +kernel
set_option maxRecDepth 100000 in
theorem gD234 : gC234.all (gDck cX10_exchanged) = true := by decide +kernel
set_option maxRecDepth 100000 in
theorem gD235 : gC235.all (gDck cX10_exchange) = true := by decide +kernel
set_option maxRecDepth 100000 in
theorem gD236 : gC236.all (gDck cX10_arranges) = true := by decide +kernel
set_option maxRecDepth 100000 in
theorem gD237 : gC237.all (gDck cX10_arrange) = true := by decide +kernel
set_option maxRecDepth 100000 in
theorem gD238 : gC238.all (gDck cX10_arranged) = true := by decide +kernel
set_option maxRecDepth 100000 in
theorem gD239 : gC239.all (gDck cX10_starts) = true := by decide +kernel
set_option maxRecDepth 100000 in
theorem gD240 : gC240.all (gDck cX10_leader) = true := by decide +kernel
set_option maxRecDepth 100000 in
theorem gD241 : gC241.all (gDck cX10_draw) = true := by decide +kernel
set_option maxRecDepth 100000 in
theorem gD242 : gC242.all (gDck cX10_drawn) = true := by decide +kernel
set_option maxRecDepth 100000 in
theorem gD243 : gC243.all (gDck cX10_image) = true := by decide +kernel
set_option maxRecDepth 100000 in
theorem gD244 : gC244.all (gDck cX10_restore) = true := by decide +kernel
set_option maxRecDepth 100000 in
theorem gD245 : gC245.all (gDck cX10_count) = true := by decide +kernel
set_option maxRecDepth 100000 in
theorem gD246 : gC246.all (gDck cL_seat) = true := by decide +kernel
set_option maxRecDepth 100000 in
theorem gD247 : gC247.all (gDck cL_cue) = true := by decide +kernel
set_option maxRecDepth 100000 in
theorem gD248 : gC248.all (gDck cL_worthOf) = true := by decide +kernel
set_option maxRecDepth 100000 in
theorem gD249 : gC249.all (gDck cJ6_bitCount_0f7a4) = true := by decide +kernel
set_option maxRecDepth 100000 in
theorem gD250 : gC250.all (gDck cJ13_bitCount_95d88) = true := by decide +kernel
set_option maxRecDepth 100000 in
theorem gD251 : gC251.all (gDck cJ7_fill_d0a16) = true := by decide +kernel
set_option maxRecDepth 100000 in
theorem gD252 : gC252.all (gDck cJ7_fill_53178) = true := by decide +kernel
end
section
theorem gDa_16 : ∀ a, a < 16 → ((gCs.getD a []).all (gDck (gMe a).2.1) = true) := lt_s (lt_s (lt_s (lt_s (lt_s (lt_s (lt_s (lt_s (lt_s (lt_s (lt_s (lt_s (lt_s (lt_s (lt_s (lt_s (lt_0) (gD0)) (gD1)) (gD2)) (gD3)) (gD4)) (gD5)) (gD6)) (gD7)) (gD8)) (gD9)) (gD10)) (gD11)) (gD12)) (gD13)) (gD14)) (gD15)
theorem gDa_32 : ∀ a, a < 32 → ((gCs.getD a []).all (gDck (gMe a).2.1) = true) := lt_s (lt_s (lt_s (lt_s (lt_s (lt_s (lt_s (lt_s (lt_s (lt_s (lt_s (lt_s (lt_s (lt_s (lt_s (lt_s (gDa_16) (gD16)) (gD17)) (gD18)) (gD19)) (gD20)) (gD21)) (gD22)) (gD23)) (gD24)) (gD25)) (gD26)) (gD27)) (gD28)) (gD29)) (gD30)) (gD31)
theorem gDa_48 : ∀ a, a < 48 → ((gCs.getD a []).all (gDck (gMe a).2.1) = true) := lt_s (lt_s (lt_s (lt_s (lt_s (lt_s (lt_s (lt_s (lt_s (lt_s (lt_s (lt_s (lt_s (lt_s (lt_s (lt_s (gDa_32) (gD32)) (gD33)) (gD34)) (gD35)) (gD36)) (gD37)) (gD38)) (gD39)) (gD40)) (gD41)) (gD42)) (gD43)) (gD44)) (gD45)) (gD46)) (gD47)
theorem gDa_64 : ∀ a, a < 64 → ((gCs.getD a []).all (gDck (gMe a).2.1) = true) := lt_s (lt_s (lt_s (lt_s (lt_s (lt_s (lt_s (lt_s (lt_s (lt_s (lt_s (lt_s (lt_s (lt_s (lt_s (lt_s (gDa_48) (gD48)) (gD49)) (gD50)) (gD51)) (gD52)) (gD53)) (gD54)) (gD55)) (gD56)) (gD57)) (gD58)) (gD59)) (gD60)) (gD61)) (gD62)) (gD63)
theorem gDa_80 : ∀ a, a < 80 → ((gCs.getD a []).all (gDck (gMe a).2.1) = true) := lt_s (lt_s (lt_s (lt_s (lt_s (lt_s (lt_s (lt_s (lt_s (lt_s (lt_s (lt_s (lt_s (lt_s (lt_s (lt_s (gDa_64) (gD64)) (gD65)) (gD66)) (gD67)) (gD68)) (gD69)) (gD70)) (gD71)) (gD72)) (gD73)) (gD74)) (gD75)) (gD76)) (gD77)) (gD78)) (gD79)
theorem gDa_96 : ∀ a, a < 96 → ((gCs.getD a []).all (gDck (gMe a).2.1) = true) := lt_s (lt_s (lt_s (lt_s (lt_s (lt_s (lt_s (lt_s (lt_s (lt_s (lt_s (lt_s (lt_s (lt_s (lt_s (lt_s (gDa_80) (gD80)) (gD81)) (gD82)) (gD83)) (gD84)) (gD85)) (gD86)) (gD87)) (gD88)) (gD89)) (gD90)) (gD91)) (gD92)) (gD93)) (gD94)) (gD95)
theorem gDa_112 : ∀ a, a < 112 → ((gCs.getD a []).all (gDck (gMe a).2.1) = true) := lt_s (lt_s (lt_s (lt_s (lt_s (lt_s (lt_s (lt_s (lt_s (lt_s (lt_s (lt_s (lt_s (lt_s (lt_s (lt_s (gDa_96) (gD96)) (gD97)) (gD98)) (gD99)) (gD100)) (gD101)) (gD102)) (gD103)) (gD104)) (gD105)) (gD106)) (gD107)) (gD108)) (gD109)) (gD110)) (gD111)
theorem gDa_128 : ∀ a, a < 128 → ((gCs.getD a []).all (gDck (gMe a).2.1) = true) := lt_s (lt_s (lt_s (lt_s (lt_s (lt_s (lt_s (lt_s (lt_s (lt_s (lt_s (lt_s (lt_s (lt_s (lt_s (lt_s (gDa_112) (gD112)) (gD113)) (gD114)) (gD115)) (gD116)) (gD117)) (gD118)) (gD119)) (gD120)) (gD121)) (gD122)) (gD123)) (gD124)) (gD125)) (gD126)) (gD127)
theorem gDa_144 : ∀ a, a < 144 → ((gCs.getD a []).all (gDck (gMe a).2.1) = true) := lt_s (lt_s (lt_s (lt_s (lt_s (lt_s (lt_s (lt_s (lt_s (lt_s (lt_s (lt_s (lt_s (lt_s (lt_s (lt_s (gDa_128) (gD128)) (gD129)) (gD130)) (gD131)) (gD132)) (gD133)) (gD134)) (gD135)) (gD136)) (gD137)) (gD138)) (gD139)) (gD140)) (gD141)) (gD142)) (gD143)
theorem gDa_160 : ∀ a, a < 160 → ((gCs.getD a []).all (gDck (gMe a).2.1) = true) := lt_s (lt_s (lt_s (lt_s (lt_s (lt_s (lt_s (lt_s (lt_s (lt_s (lt_s (lt_s (lt_s (lt_s (lt_s (lt_s (gDa_144) (gD144)) (gD145)) (gD146)) (gD147)) (gD148)) (gD149)) (gD150)) (gD151)) (gD152)) (gD153)) (gD154)) (gD155)) (gD156)) (gD157)) (gD158)) (gD159)
theorem gDa_176 : ∀ a, a < 176 → ((gCs.getD a []).all (gDck (gMe a).2.1) = true) := lt_s (lt_s (lt_s (lt_s (lt_s (lt_s (lt_s (lt_s (lt_s (lt_s (lt_s (lt_s (lt_s (lt_s (lt_s (lt_s (gDa_160) (gD160)) (gD161)) (gD162)) (gD163)) (gD164)) (gD165)) (gD166)) (gD167)) (gD168)) (gD169)) (gD170)) (gD171)) (gD172)) (gD173)) (gD174)) (gD175)
theorem gDa_192 : ∀ a, a < 192 → ((gCs.getD a []).all (gDck (gMe a).2.1) = true) := lt_s (lt_s (lt_s (lt_s (lt_s (lt_s (lt_s (lt_s (lt_s (lt_s (lt_s (lt_s (lt_s (lt_s (lt_s (lt_s (gDa_176) (gD176)) (gD177)) (gD178)) (gD179)) (gD180)) (gD181)) (gD182)) (gD183)) (gD184)) (gD185)) (gD186)) (gD187)) (gD188)) (gD189)) (gD190)) (gD191)
theorem gDa_208 : ∀ a, a < 208 → ((gCs.getD a []).all (gDck (gMe a).2.1) = true) := lt_s (lt_s (lt_s (lt_s (lt_s (lt_s (lt_s (lt_s (lt_s (lt_s (lt_s (lt_s (lt_s (lt_s (lt_s (lt_s (gDa_192) (gD192)) (gD193)) (gD194)) (gD195)) (gD196)) (gD197)) (gD198)) (gD199)) (gD200)) (gD201)) (gD202)) (gD203)) (gD204)) (gD205)) (gD206)) (gD207)
theorem gDa_224 : ∀ a, a < 224 → ((gCs.getD a []).all (gDck (gMe a).2.1) = true) := lt_s (lt_s (lt_s (lt_s (lt_s (lt_s (lt_s (lt_s (lt_s (lt_s (lt_s (lt_s (lt_s (lt_s (lt_s (lt_s (gDa_208) (gD208)) (gD209)) (gD210)) (gD211)) (gD212)) (gD213)) (gD214)) (gD215)) (gD216)) (gD217)) (gD218)) (gD219)) (gD220)) (gD221)) (gD222)) (gD223)
theorem gDa_240 : ∀ a, a < 240 → ((gCs.getD a []).all (gDck (gMe a).2.1) = true) := lt_s (lt_s (lt_s (lt_s (lt_s (lt_s (lt_s (lt_s (lt_s (lt_s (lt_s (lt_s (lt_s (lt_s (lt_s (lt_s (gDa_224) (gD224)) (gD225)) (gD226)) (gD227)) (gD228)) (gD229)) (gD230)) (gD231)) (gD232)) (gD233)) (gD234)) (gD235)) (gD236)) (gD237)) (gD238)) (gD239)
theorem gDa_253 : ∀ a, a < 253 → ((gCs.getD a []).all (gDck (gMe a).2.1) = true) := lt_s (lt_s (lt_s (lt_s (lt_s (lt_s (lt_s (lt_s (lt_s (lt_s (lt_s (lt_s (lt_s (gDa_240) (gD240)) (gD241)) (gD242)) (gD243)) (gD244)) (gD245)) (gD246)) (gD247)) (gD248)) (gD249)) (gD250)) (gD251)) (gD252)
theorem gCs_len : gCs.length = 253 := by decide +kernel
end
section
/-! A SMALL MACHINE over numbers of cells: what the bytecode does, as a function; the rows behind it say that the JVM does the same. -/
abbrev mW : Type := List (Nat × Nat) × (Nat → Nat → Int32) × (Nat → Nat → Int64) × (Nat → Nat → Option Nat) × Nat × Nat
abbrev mL : Type := List (Option Value)
abbrev wS (w : mW) : List (Nat × Nat) := w.1
abbrev wI (w : mW) : Nat → Nat → Int32 := w.2.1
abbrev wJ (w : mW) : Nat → Nat → Int64 := w.2.2.1
abbrev wR (w : mW) : Nat → Nat → Option Nat := w.2.2.2.1
abbrev wC (w : mW) : Nat := w.2.2.2.2.1
abbrev wZ (w : mW) : Nat := w.2.2.2.2.2
abbrev wsI (w : mW) (f : Nat → Nat → Int32) : mW := (w.1, f, w.2.2)
abbrev wsJ (w : mW) (f : Nat → Nat → Int64) : mW := (w.1, w.2.1, f, w.2.2.2)
abbrev wsR (w : mW) (f : Nat → Nat → Option Nat) : mW := (w.1, w.2.1, w.2.2.1, f, w.2.2.2.2)
/-- place k of the row of cell i -/
def mSet {α : Type} (f : Nat → Nat → α) (i k : Nat) (v : α) : Nat → Nat → α := va_up f i (va_up (f i) k v)
/-- a new cell, of kind q, with n places -/
def mNew (w : mW) (q : Nat × Nat) (n : Nat) : mW := (w.1 ++ [q], va_up w.2.1 w.1.length (fun _ => 0), va_up w.2.2.1 w.1.length (fun _ => 0), va_up w.2.2.2.1 w.1.length (fun _ => none), w.2.2.2.2.1 + 1, w.2.2.2.2.2 + n)
def mFind : List (Nat × Instr × Nat) → Nat → Option (Instr × Nat)
  | [], _ => none
  | (p, q) :: r, pc => if Nat.beq p pc = true then some q else mFind r pc
def mLk {α : Type} : List (Nat × Nat × α) → Nat → Nat → Option α
  | [], _, _ => none
  | (a, b, v) :: r, o, x => if (Nat.beq a o && Nat.beq b x) = true then some v else mLk r o x
def cod (mi pc : Nat) : Option (Instr × Nat) := mFind (gCs.getD mi []) pc
/-- the script's own number; the texts' are those behind it -/
abbrev mScr : Nat := 1000000
/-- locals -/
def mClr2 (o : Option Value) (Lo : mL) (i : Nat) : mL := match o with
  | some (.long _) => Lo.set i none
  | some (.double _) => Lo.set i none
  | _ => Lo
def mClr (Lo : mL) : Nat → mL
  | 0 => Lo
  | i + 1 => mClr2 (Lo.getD i none) Lo i
def mSt1 (Lo : mL) (i : Nat) (v : Value) : Option mL := if i < Lo.length then some ((mClr Lo i).set i (some v)) else none
def mSt2 (Lo : mL) (i : Nat) (v : Value) : Option mL := if i + 1 < Lo.length then some (((mClr Lo i).set i (some v)).set (i + 1) none) else none
def mArg : List Value → mL
  | [] => []
  | .long x :: r => some (.long x) :: none :: mArg r
  | .double x :: r => some (.double x) :: none :: mArg r
  | v :: r => some v :: mArg r
def mIni (ml : Nat) (as : List Value) : mL := mArg as ++ List.replicate (ml - (mArg as).length) none
def mPop : Nat → List Value → Option (List Value × List Value)
  | 0, st => some ([], st)
  | k + 1, v :: st => match mPop k st with
    | some (as, r) => some (as ++ [v], r)
    | none => none
  | _ + 1, [] => none
def mBin (i : Instr) (x y : Int32) : Option Int32 := match i with
  | .iadd => some (x + y)
  | .isub => some (x - y)
  | .imul => some (x * y)
  | .iand => some (x &&& y)
  | .ior => some (x ||| y)
  | .ixor => some (x ^^^ y)
  | .ishl => some (x <<< (y &&& 31))
  | .ishr => some (x >>> (y &&& 31))
  | .iushr => some (x.toUInt32 >>> (y.toUInt32 &&& Int32.toUInt32 31)).toInt32
  | .idiv => if y = 0 then none else some (x / y)
  | .irem => if y = 0 then none else some (x - x / y * y)
  | _ => none
def mBiL (i : Instr) (x y : Int64) : Option Int64 := match i with
  | .ladd => some (x + y)
  | .lsub => some (x - y)
  | .lmul => some (x * y)
  | .land => some (x &&& y)
  | .lor => some (x ||| y)
  | .lxor => some (x ^^^ y)
  | .ldiv => if y = 0 then none else some (x / y)
  | .lrem => if y = 0 then none else some (x - x / y * y)
  | _ => none
def mShL (i : Instr) (x : Int64) (y : Int32) : Option Int64 := match i with
  | .lshl => some (x <<< (y.toInt64 &&& 63))
  | .lshr => some (x >>> (y.toInt64 &&& 63))
  | .lushr => some (x.toUInt64 >>> (y.toInt64.toUInt64 &&& Int64.toUInt64 63)).toInt64
  | _ => none
/-- the JVM's arrays by kind: 1 int, 2 byte, 3 boolean, 4 long, 5 references -/
def mAk : ArrayType → Nat
  | .int => 1
  | .byte => 2
  | .boolean => 3
  | .long => 4
  | _ => 9
def gSb : List (List Int32) := gStr.map (fun s => s.toList.map (fun c => Int32.ofNat c.toNat))
def mRf : Option Nat → Value
  | none => .null
  | some a => .ref a
abbrev mT : Type := Option (mL × List Value × mW)
def mLdI (Lo : mL) (k : Nat) (st : List Value) (w : mW) : mT := match Lo.getD k none with
  | some (.int x) => some (Lo, .int x :: st, w)
  | _ => none
def mLdL (Lo : mL) (k : Nat) (st : List Value) (w : mW) : mT := match Lo.getD k none with
  | some (.long x) => some (Lo, .long x :: st, w)
  | _ => none
def mLdA (Lo : mL) (k : Nat) (st : List Value) (w : mW) : mT := match Lo.getD k none with
  | some (.ref x) => some (Lo, .ref x :: st, w)
  | _ => none
def mStI (Lo : mL) (k : Nat) (st : List Value) (w : mW) : mT := match st with
  | .int x :: r => match mSt1 Lo k (.int x) with
    | some L => some (L, r, w)
    | none => none
  | _ => none
def mStL (Lo : mL) (k : Nat) (st : List Value) (w : mW) : mT := match st with
  | .long x :: r => match mSt2 Lo k (.long x) with
    | some L => some (L, r, w)
    | none => none
  | _ => none
def mStA (Lo : mL) (k : Nat) (st : List Value) (w : mW) : mT := match st with
  | .ref x :: r => match mSt1 Lo k (.ref x) with
    | some L => some (L, r, w)
    | none => none
  | _ => none
def mInc (Lo : mL) (k : Nat) (n : Int) (st : List Value) (w : mW) : mT := match Lo.getD k none with
  | some (.int x) => match mSt1 Lo k (.int (x + Int32.ofInt n)) with
    | some L => some (L, st, w)
    | none => none
  | _ => none
def mDef (i : Instr) (Lo : mL) (st : List Value) (w : mW) : mT := match st with
  | .int y :: .int x :: r => match mBin i x y with
    | some v => some (Lo, .int v :: r, w)
    | none => none
  | .long y :: .long x :: r => match mBiL i x y with
    | some v => some (Lo, .long v :: r, w)
    | none => none
  | .int y :: .long x :: r => match mShL i x y with
    | some v => some (Lo, .long v :: r, w)
    | none => none
  | _ => none
def mUnI (f : Int32 → Value) (Lo : mL) (st : List Value) (w : mW) : mT := match st with
  | .int x :: r => some (Lo, f x :: r, w)
  | _ => none
def mUnL (f : Int64 → Value) (Lo : mL) (st : List Value) (w : mW) : mT := match st with
  | .long x :: r => some (Lo, f x :: r, w)
  | _ => none
def mCmp (Lo : mL) (st : List Value) (w : mW) : mT := match st with
  | .long y :: .long x :: r => some (Lo, .int (lg_cmp x y) :: r, w)
  | _ => none
def mDup (Lo : mL) (st : List Value) (w : mW) : mT := match st with
  | .int x :: r => some (Lo, .int x :: .int x :: r, w)
  | .ref x :: r => some (Lo, .ref x :: .ref x :: r, w)
  | _ => none
def mPp (Lo : mL) (st : List Value) (w : mW) : mT := match st with
  | .int _ :: r => some (Lo, r, w)
  | .ref _ :: r => some (Lo, r, w)
  | _ => none
def mDup2 (Lo : mL) (st : List Value) (w : mW) : mT := match st with
  | .int x :: .ref y :: r => some (Lo, .int x :: .ref y :: .int x :: .ref y :: r, w)
  | _ => none
def mLdc (mi x : Nat) (Lo : mL) (st : List Value) (w : mW) : mT := match mLk gCon (gO mi) x with
  | some (.int v) => some (Lo, .int v :: st, w)
  | some (.ref v) => some (Lo, .ref v :: st, w)
  | _ => none
def mLdcW (mi x : Nat) (Lo : mL) (st : List Value) (w : mW) : mT := match mLk gCon (gO mi) x with
  | some (.int v) => some (Lo, .int v :: st, w)
  | _ => none
def mLdc2 (mi x : Nat) (Lo : mL) (st : List Value) (w : mW) : mT := match mLk gCon (gO mi) x with
  | some (.long v) => some (Lo, .long v :: st, w)
  | _ => none
abbrev gKi (ci k : Nat) : Nat := (gFt.getD ci []).getD k 9
abbrev gFi (ci k : Nat) : Bool := (gFf.getD ci []).getD k true
def mFld (w : mW) (a k : Nat) (t : Nat) : Value := match t with
  | 1 => .long (wJ w a k)
  | 2 => mRf (wR w a k)
  | _ => .int (wI w a k)
def mGet (mi x : Nat) (Lo : mL) (st : List Value) (w : mW) : mT := match st with
  | .ref a :: r => match mLk gF (gO mi) x with
    | some (ci, k) => if (wS w)[a]? = some (0, ci) then some (Lo, mFld w a k (gKi ci k) :: r, w) else none
    | none => none
  | _ => none
def mPut (mi x : Nat) (Lo : mL) (st : List Value) (w : mW) : mT := match st with
  | .int v :: .ref a :: r => match mLk gF (gO mi) x with
    | some (ci, k) => if (wS w)[a]? = some (0, ci) ∧ gFi ci k = false ∧ (gKi ci k = 0 ∨ (gKi ci k = 3 ∧ (v = 0 ∨ v = 1))) then some (Lo, r, wsI w (mSet (wI w) a k v)) else none
    | none => none
  | .long v :: .ref a :: r => match mLk gF (gO mi) x with
    | some (ci, k) => if (wS w)[a]? = some (0, ci) ∧ gFi ci k = false ∧ gKi ci k = 1 then some (Lo, r, wsJ w (mSet (wJ w) a k v)) else none
    | none => none
  | .ref v :: .ref a :: r => match mLk gF (gO mi) x with
    | some (ci, k) => if (wS w)[a]? = some (0, ci) ∧ gFi ci k = true ∧ gKi ci k = 2 ∧ (gMe mi).2.2.2.2.2.2 = 2 ∧ gO mi = ci then some (Lo, r, wsR w (mSet (wR w) a k (some v))) else none
    | none => none
  | _ => none
abbrev mOut (j : Int32) (n : Nat) : Prop := j < 0 ∨ n ≤ j.toNatClampNeg
def mIal (S : Nat × (Nat → Int32)) (mi : Nat) (Lo : mL) (st : List Value) (w : mW) : mT := match st with
  | .int j :: .ref a :: r => if a = mScr ∧ mi = 0 then (if mOut j S.1 then none else some (Lo, .int (S.2 j.toNatClampNeg) :: r, w)) else match (wS w)[a]? with
    | some (1, n) => if mOut j n then none else some (Lo, .int (wI w a j.toNatClampNeg) :: r, w)
    | _ => none
  | _ => none
def mBal (Lo : mL) (st : List Value) (w : mW) : mT := match st with
  | .int j :: .ref a :: r => match (wS w)[a]? with
    | some (2, n) => if mOut j n then none else some (Lo, .int (wI w a j.toNatClampNeg) :: r, w)
    | some (3, n) => if mOut j n then none else some (Lo, .int (wI w a j.toNatClampNeg) :: r, w)
    | _ => none
  | _ => none
def mLal (Lo : mL) (st : List Value) (w : mW) : mT := match st with
  | .int j :: .ref a :: r => match (wS w)[a]? with
    | some (4, n) => if mOut j n then none else some (Lo, .long (wJ w a j.toNatClampNeg) :: r, w)
    | _ => none
  | _ => none
def mAal (Lo : mL) (st : List Value) (w : mW) : mT := match st with
  | .int j :: .ref a :: r => match (wS w)[a]? with
    | some (5, n) => if mOut j n then none else some (Lo, mRf (wR w a j.toNatClampNeg) :: r, w)
    | _ => none
  | _ => none
def mIas (Lo : mL) (st : List Value) (w : mW) : mT := match st with
  | .int v :: .int j :: .ref a :: r => match (wS w)[a]? with
    | some (1, n) => if mOut j n then none else some (Lo, r, wsI w (mSet (wI w) a j.toNatClampNeg v))
    | _ => none
  | _ => none
def mBas (Lo : mL) (st : List Value) (w : mW) : mT := match st with
  | .int v :: .int j :: .ref a :: r => match (wS w)[a]? with
    | some (2, n) => if mOut j n then none else some (Lo, r, wsI w (mSet (wI w) a j.toNatClampNeg (vp_nar .byte v)))
    | some (3, n) => if mOut j n then none else some (Lo, r, wsI w (mSet (wI w) a j.toNatClampNeg (vp_nar .boolean v)))
    | _ => none
  | _ => none
def mLas (Lo : mL) (st : List Value) (w : mW) : mT := match st with
  | .long v :: .int j :: .ref a :: r => match (wS w)[a]? with
    | some (4, n) => if mOut j n then none else some (Lo, r, wsJ w (mSet (wJ w) a j.toNatClampNeg v))
    | _ => none
  | _ => none
def mAas (Lo : mL) (st : List Value) (w : mW) : mT := match st with
  | .ref v :: .int j :: .ref a :: r => match (wS w)[a]? with
    | some (5, n) => if mOut j n ∨ ¬ (wS w)[v]? = some (0, 2) then none else some (Lo, r, wsR w (mSet (wR w) a j.toNatClampNeg (some v)))
    | _ => none
  | _ => none
def mAln (S : Nat × (Nat → Int32)) (mi : Nat) (Lo : mL) (st : List Value) (w : mW) : mT := match st with
  | .ref a :: r => if a = mScr ∧ mi = 0 then some (Lo, .int (Int32.ofNat S.1) :: r, w) else match (wS w)[a]? with
    | some (1, n) => some (Lo, .int (Int32.ofNat n) :: r, w)
    | some (4, n) => some (Lo, .int (Int32.ofNat n) :: r, w)
    | _ => none
  | _ => none
def mNwa (t : ArrayType) (Lo : mL) (st : List Value) (w : mW) : mT := match st with
  | .int n :: r => if n < 0 ∨ 100000 < n.toNatClampNeg ∨ mScr ≤ (wS w).length ∨ mAk t = 9 then none else some (Lo, .ref (wS w).length :: r, mNew w (mAk t, n.toNatClampNeg) n.toNatClampNeg)
  | _ => none
def mNwq (mi x : Nat) (Lo : mL) (st : List Value) (w : mW) : mT := match st with
  | .int n :: r => if n < 0 ∨ 100000 < n.toNatClampNeg ∨ mScr ≤ (wS w).length ∨ ¬ mLk gNew (gO mi) x = some 2 then none else some (Lo, .ref (wS w).length :: r, mNew w (5, n.toNatClampNeg) n.toNatClampNeg)
  | _ => none
def mNwo (mi x : Nat) (Lo : mL) (st : List Value) (w : mW) : mT := match mLk gNew (gO mi) x with
  | some ci => if 11 ≤ ci ∨ mScr ≤ (wS w).length then none else some (Lo, .ref (wS w).length :: st, mNew w (0, ci) (gFt.getD ci []).length)
  | none => none
abbrev mCat (r : List Value) : Nat := (r.map fun v => v.category).sum
def mIsp (d mi x : Nat) (Lo : mL) (st : List Value) (w : mW) : mT := match st with
  | .ref _ :: r => if (mLk gCall (gO mi) x).map (·.1) = some 1000 ∧ 0 < d ∧ mCat r ≤ 8 then some (Lo, r, w) else none
  | _ => none
def mCpy (Lo : mL) (r : List Value) (w : mW) (a0 sp a dp n : Nat) : mT := match (wS w)[a0]?, (wS w)[a]? with
  | some (1, n0), some (1, n1) => if n0 < sp + n ∨ n1 < dp + n then none else some (Lo, r, wsI w (va_up (wI w) a (va_cpy (wI w a0) (wI w a) sp dp n)))
  | some (4, n0), some (4, n1) => if n0 < sp + n ∨ n1 < dp + n then none else some (Lo, r, wsJ w (va_up (wJ w) a (va_cpy (wJ w a0) (wJ w a) sp dp n)))
  | _, _ => none
def mM2 (f : Int32 → Int32 → Int32) (d : Nat) (Lo : mL) (st : List Value) (w : mW) : mT := match st with
  | .int y :: .int x :: r => if 0 < d ∧ mCat r ≤ 8 then some (Lo, .int (f x y) :: r, w) else none
  | _ => none
def mM1 (f : Int32 → Int32) (d : Nat) (Lo : mL) (st : List Value) (w : mW) : mT := match st with
  | .int x :: r => if 0 < d ∧ mCat r ≤ 8 then some (Lo, .int (f x) :: r, w) else none
  | _ => none
def mAcp (d : Nat) (Lo : mL) (st : List Value) (w : mW) : mT := match st with
  | .int n :: .int dp :: .ref a :: .int sp :: .ref a0 :: r => if 0 < d ∧ mCat r ≤ 8 ∧ ¬ sp < 0 ∧ ¬ dp < 0 ∧ ¬ n < 0 then mCpy Lo r w a0 sp.toNatClampNeg a dp.toNatClampNeg n.toNatClampNeg else none
  | _ => none
def mIst (d mi x : Nat) (Lo : mL) (st : List Value) (w : mW) : mT := match mLk gCall (gO mi) x with
  | some (1001, _) => mAcp d Lo st w
  | some (1005, _) => mM2 (fun x y => if x < y then y else x) d Lo st w
  | some (1006, _) => mM2 (fun x y => if y < x then y else x) d Lo st w
  | some (1007, _) => mM1 (fun x => if 0 ≤ x then x else 0 - x) d Lo st w
  | _ => none
def mSln (d : Nat) (Lo : mL) (st : List Value) (w : mW) : mT := match st with
  | .ref a :: r => if 3 ≤ d ∧ mCat r ≤ 8 ∧ mScr < a ∧ a ≤ 1000005 then some (Lo, .int (Int32.ofNat (gSb.getD (a - 1000001) []).length) :: r, w) else none
  | _ => none
def mSch (d : Nat) (Lo : mL) (st : List Value) (w : mW) : mT := match st with
  | .int j :: .ref a :: r => if 6 ≤ d ∧ mCat r ≤ 8 ∧ mScr < a ∧ a ≤ 1000005 ∧ ¬ mOut j (gSb.getD (a - 1000001) []).length then some (Lo, .int ((gSb.getD (a - 1000001) []).getD j.toNatClampNeg 0) :: r, w) else none
  | _ => none
def mIvt (d mi x : Nat) (Lo : mL) (st : List Value) (w : mW) : mT := match mLk gCall (gO mi) x with
  | some (1002, _) => mSln d Lo st w
  | some (1003, _) => mSch d Lo st w
  | _ => none
/-- one plain instruction (no branch, no call of a method with code, no end): locals, stack, world -/
def st1 (S : Nat × (Nat → Int32)) (d mi : Nat) (i : Instr) (Lo : mL) (st : List Value) (w : mW) : mT :=
  match i with
  | .iconst n => some (Lo, .int (Int32.ofInt n) :: st, w)
  | .bipush n => some (Lo, .int (Int8.ofInt n).toInt32 :: st, w)
  | .sipush n => some (Lo, .int (Int16.ofInt n).toInt32 :: st, w)
  | .lconst n => some (Lo, .long (Int64.ofNat (n : Nat)) :: st, w)
  | .ldc x => mLdc mi x Lo st w
  | .ldc_w x => mLdcW mi x Lo st w
  | .ldc2_w x => mLdc2 mi x Lo st w
  | .iload k => mLdI Lo k st w
  | .iload_n k => mLdI Lo k st w
  | .lload k => mLdL Lo k st w
  | .lload_n k => mLdL Lo k st w
  | .aload k => mLdA Lo k st w
  | .aload_n k => mLdA Lo k st w
  | .istore k => mStI Lo k st w
  | .istore_n k => mStI Lo k st w
  | .lstore k => mStL Lo k st w
  | .lstore_n k => mStL Lo k st w
  | .astore k => mStA Lo k st w
  | .astore_n k => mStA Lo k st w
  | .iinc k n => mInc Lo k n st w
  | .ineg => mUnI (fun x => .int (-x)) Lo st w
  | .lneg => mUnL (fun x => .long (-x)) Lo st w
  | .i2l => mUnI (fun x => .long x.toInt64) Lo st w
  | .l2i => mUnL (fun x => .int x.toInt32) Lo st w
  | .i2b => mUnI (fun x => .int x.toInt8.toInt32) Lo st w
  | .lcmp => mCmp Lo st w
  | .dup => mDup Lo st w
  | .pop => mPp Lo st w
  | .dup2 => mDup2 Lo st w
  | .getfield x => mGet mi x Lo st w
  | .putfield x => mPut mi x Lo st w
  | .iaload => mIal S mi Lo st w
  | .baload => mBal Lo st w
  | .laload => mLal Lo st w
  | .aaload => mAal Lo st w
  | .iastore => mIas Lo st w
  | .bastore => mBas Lo st w
  | .lastore => mLas Lo st w
  | .aastore => mAas Lo st w
  | .arraylength => mAln S mi Lo st w
  | .newarray t => mNwa t Lo st w
  | .anewarray x => mNwq mi x Lo st w
  | .new x => mNwo mi x Lo st w
  | .invokespecial x => mIsp d mi x Lo st w
  | .invokestatic x => mIst d mi x Lo st w
  | .invokevirtual x => mIvt d mi x Lo st w
  | .iadd => mDef .iadd Lo st w
  | .isub => mDef .isub Lo st w
  | .imul => mDef .imul Lo st w
  | .iand => mDef .iand Lo st w
  | .ior => mDef .ior Lo st w
  | .ixor => mDef .ixor Lo st w
  | .ishl => mDef .ishl Lo st w
  | .ishr => mDef .ishr Lo st w
  | .iushr => mDef .iushr Lo st w
  | .idiv => mDef .idiv Lo st w
  | .irem => mDef .irem Lo st w
  | .ladd => mDef .ladd Lo st w
  | .lsub => mDef .lsub Lo st w
  | .lmul => mDef .lmul Lo st w
  | .land => mDef .land Lo st w
  | .lor => mDef .lor Lo st w
  | .lxor => mDef .lxor Lo st w
  | .ldiv => mDef .ldiv Lo st w
  | .lrem => mDef .lrem Lo st w
  | .lshl => mDef .lshl Lo st w
  | .lshr => mDef .lshr Lo st w
  | .lushr => mDef .lushr Lo st w
  | _ => none
/-- which of the two ways a branch goes, by x and y: 'x = y' or 'x < y' or 'y < x', and whether that jumps -/
def mTgt (pc : Nat) (off : Int) : Nat := ((pc : Int) + off).toNat
/-- an end: none is a throw -/
abbrev mO : Type := Option (Option Value)
def mBr {α : Type} (c : Jvm.ClassFile.Cond) (x y : Int32) (t f : α) : α := match c with
  | .eq => if x = y then t else f
  | .ne => if x = y then f else t
  | .lt => if x < y then t else f
  | .ge => if x < y then f else t
  | .gt => if y < x then t else f
  | .le => if y < x then f else t
/-- the methods that the law's three helpers call -/
def mHelp : Nat → Nat
  | 246 => 103
  | 247 => 108
  | 248 => 124
  | _ => 9999
def ex (S : Nat × (Nat → Int32)) : Nat → Nat → Nat → Nat → mL → List Value → mW → Option (mO × mW)
  | 0, _, _, _, _, _, _ => none
  | n + 1, d, mi, pc, Lo, st, w => match cod mi pc with
    | none => none
    | some (i, len) => match st1 S d mi i Lo st w with
      | some (Lo1, st1, w1) => ex S n d mi (pc + len) Lo1 st1 w1
      | none => match i with
        | .goto off => ex S n d mi (mTgt pc off) Lo st w
        | .ifCond c off => match st with
          | .int x :: r => mBr c x 0 (ex S n d mi (mTgt pc off) Lo r w) (ex S n d mi (pc + len) Lo r w)
          | _ => none
        | .if_icmp c off => match st with
          | .int y :: .int x :: r => mBr c x y (ex S n d mi (mTgt pc off) Lo r w) (ex S n d mi (pc + len) Lo r w)
          | _ => none
        | .ifnonnull off => match st with
          | .ref _ :: r => ex S n d mi (mTgt pc off) Lo r w
          | .null :: r => ex S n d mi (pc + len) Lo r w
          | _ => none
        | .tableswitch df lo hi offs => match st with
          | .int x :: r => if x.toInt < lo ∨ hi < x.toInt then ex S n d mi (mTgt pc df) Lo r w else match offs[(x.toInt - lo).toNat]? with
            | some off => ex S n d mi (mTgt pc off) Lo r w
            | none => none
          | _ => none
        | .ireturn => match st with
          | [.int v] => if (gMe mi).2.2.2.1 = some .int ∨ ((gMe mi).2.2.2.1 = some .boolean ∧ (v = 0 ∨ v = 1)) then some (some (some (.int v)), w) else none
          | _ => none
        | .lreturn => match st with
          | [.long v] => if (gMe mi).2.2.2.1 = some .long then some (some (some (.long v)), w) else none
          | _ => none
        | .return_ => match st with
          | [] => if (gMe mi).2.2.2.1 = none then some (some none, w) else none
          | _ => none
        | .new x => if mLk gNew (gO mi) x = some 11 ∧ (wS w).length < mScr then some (none, mNew w (0, 11) 6) else none
        | .invokevirtual x => match mLk gCall (gO mi) x with
          | some (mj, nest) => match mPop ((gMe mj).2.2.2.2.2.1 + 1) st, d with
            | some (.ref a :: as, r), d1 + 1 => if (gMe mj).2.2.2.2.2.2 = 1 ∧ mj < 1000 ∧ nest = 0 ∧ (wS w)[a]? = some (0, gO mj) ∧ mCat r ≤ 8 ∧ (mArg (.ref a :: as)).length ≤ (gMe mj).2.2.1 then (match ex S n d1 mj 0 (mIni (gMe mj).2.2.1 (.ref a :: as)) [] w with
                | some (some o, w1) => ex S n d mi (pc + len) Lo (o.toList ++ r) w1
                | _ => none) else none
            | _, _ => none
          | none => none
        | .invokespecial x => match mLk gCall (gO mi) x with
          | some (mj, nest) => match mPop ((gMe mj).2.2.2.2.2.1 + 1) st, d with
            | some (.ref a :: as, r), d1 + 1 => if (gMe mj).2.2.2.2.2.2 = 2 ∧ mj < 1000 ∧ mCat r ≤ 8 ∧ (mArg (.ref a :: as)).length ≤ (gMe mj).2.2.1 then (match ex S n d1 mj 0 (mIni (gMe mj).2.2.1 (.ref a :: as)) [] w with
                | some (some none, w1) => ex S n d mi (pc + len) Lo r w1
                | _ => none) else none
            | _, _ => none
          | none => none
        | .invokestatic x => match mLk gCall (gO mi) x with
          | some (mj, nest) => match mPop (gMe mj).2.2.2.2.2.1 st, d with
            | some (as, r), d1 + 1 => if (gMe mj).2.2.2.2.2.2 = 0 ∧ mj < 1000 ∧ mCat r ≤ 8 ∧ (mArg as).length ≤ (gMe mj).2.2.1 then
                (if 246 ≤ mj ∧ mj ≤ 248 then (match as, d1 with
                  | [.ref x0, .int p0, .int p1, .ref q], d2 + 1 => match (wS w)[q]?, (wS w)[x0]? with
                    | some (4, 1), some (0, 9) => match ex S n d2 (mHelp mj) 0 (mIni (gMe (mHelp mj)).2.2.1 [.ref x0, .int p0, .int p1]) [] w with
                      | some (some (some (.int v)), w1) => ex S n d mi (pc + len) Lo (.int 0 :: r) (wsJ w1 (mSet (wJ w1) q 0 v.toInt64))
                      | some (none, w1) => ex S n d mi (pc + len) Lo (.int 1 :: r) w1
                      | _ => none
                    | _, _ => none
                  | _, _ => none)
                else (match ex S n d1 mj 0 (mIni (gMe mj).2.2.1 as) [] w with
                | some (some o, w1) => ex S n d mi (pc + len) Lo (o.toList ++ r) w1
                | _ => none)) else none
            | _, _ => none
          | none => none
        | _ => none
end
section
/-! numbers of cells to addresses, abstract values to values, a world to the kit's cells -/
def mAd (base b : Nat) (adK : Nat → Nat) (i : Nat) : Nat := if i < 1000000 then base + i else if i = 1000000 then b else adK (i - 1000001)
theorem mAd_lt {base b : Nat} {adK : Nat → Nat} {i : Nat} (h : i < 1000000) : mAd base b adK i = base + i := if_pos h
theorem mAd_scr {base b : Nat} {adK : Nat → Nat} : mAd base b adK mScr = b := rfl
def mCv (ad : Nat → Nat) : Value → Value
  | .ref i => .ref (ad i)
  | v => v
theorem mCv_cat (ad : Nat → Nat) (v : Value) : (mCv ad v).category = v.category := by cases v <;> rfl
theorem mCv_rf (ad : Nat → Nat) (o : Option Nat) : mCv ad (mRf o) = va_rf (o.map ad) := by cases o <;> rfl
theorem mCats (ad : Nat → Nat) : ∀ (st : List Value), mCat (st.map (mCv ad)) = mCat st
  | [] => rfl
  | v :: r => by
    have := mCats ad r
    simp only [mCat, List.map_cons, List.sum_cons, mCv_cat] at this ⊢
    rw [this]
/-! locals -/
def mLv (ad : Nat → Nat) (Lo : mL) : List (Nat × Value) := (List.range Lo.length).filterMap (fun i => (Lo.getD i none).map (fun v => (i, mCv ad v)))
theorem mLv_mem {ad : Nat → Nat} {Lo : mL} {q : Nat × Value} : q ∈ mLv ad Lo ↔ ∃ v, Lo.getD q.1 none = some v ∧ q.2 = mCv ad v := by
  unfold mLv
  rw [List.mem_filterMap]
  constructor
  · rintro ⟨i, -, h⟩
    cases hv : Lo.getD i none with
    | none => rw [hv] at h; cases h
    | some v => rw [hv] at h; cases h; exact ⟨v, hv, rfl⟩
  · rintro ⟨v, h1, h2⟩
    refine ⟨q.1, List.mem_range.mpr ?_, ?_⟩
    · rcases Nat.lt_or_ge q.1 Lo.length with h | h
      · exact h
      · rw [List.getD_eq_getElem?_getD, List.getElem?_eq_none h] at h1
        cases h1
    · rw [h1, Option.map_some, ← h2]
theorem mLv_ld {ls : Array Slot} {nL : Nat} {ad : Nat → Nat} {Lo : mL} {k : Nat} {v : Value} (h : lv_has ls nL (mLv ad Lo)) (hk : Lo.getD k none = some v) : ls[k]? = some (.val (mCv ad v)) := h.2.2 (k, mCv ad v) (mLv_mem.mpr ⟨v, hk, rfl⟩)
theorem mGetD_set {Lo : mL} {i j : Nat} {x : Option Value} : (Lo.set i x).getD j none = if j = i then (if i < Lo.length then x else none) else Lo.getD j none := by
  rw [List.getD_eq_getElem?_getD, List.getD_eq_getElem?_getD, List.getElem?_set]
  by_cases h : i = j
  · subst h
    by_cases h2 : i < Lo.length <;> simp [h2]
  · rw [if_neg h, if_neg (fun q => h q.symm)]
theorem mClr_len {Lo : mL} {i : Nat} : (mClr Lo i).length = Lo.length := by
  cases i with
  | zero => rfl
  | succ i =>
    show (mClr2 (Lo.getD i none) Lo i).length = Lo.length
    unfold mClr2
    split <;> simp
theorem mClr_get {Lo : mL} {i j : Nat} {v : Value} (h : (mClr Lo i).getD j none = some v) : Lo.getD j none = some v ∧ ¬ (j + 1 = i ∧ v.category = 2) := by
  cases i with
  | zero => exact ⟨h, fun q => absurd q.1 (by omega)⟩
  | succ i =>
    have key : mClr Lo (i + 1) = Lo.set i none ∨ ((∀ u, Lo.getD i none = some u → ¬ u.category = 2) ∧ mClr Lo (i + 1) = Lo) := by
      show mClr2 (Lo.getD i none) Lo i = Lo.set i none ∨ ((∀ u, Lo.getD i none = some u → ¬ u.category = 2) ∧ mClr2 (Lo.getD i none) Lo i = Lo)
      cases hu : Lo.getD i none with
      | none => exact Or.inr ⟨fun u q => (by cases q), rfl⟩
      | some u =>
        cases u with
        | long x => exact Or.inl rfl
        | double x => exact Or.inl rfl
        | int x => exact Or.inr ⟨fun u q => (by cases q; intro z; cases z), rfl⟩
        | float x => exact Or.inr ⟨fun u q => (by cases q; intro z; cases z), rfl⟩
        | null => exact Or.inr ⟨fun u q => (by cases q; intro z; cases z), rfl⟩
        | ref x => exact Or.inr ⟨fun u q => (by cases q; intro z; cases z), rfl⟩
        | retAddr x => exact Or.inr ⟨fun u q => (by cases q; intro z; cases z), rfl⟩
    rcases key with h3 | ⟨h1, h3⟩
    · rw [h3, mGetD_set] at h
      by_cases hj : j = i
      · rw [if_pos hj] at h
        split at h <;> cases h
      · rw [if_neg hj] at h
        exact ⟨h, fun q => hj (by omega)⟩
    · rw [h3] at h
      refine ⟨h, fun q => ?_⟩
      have hj : j = i := by omega
      subst hj
      exact h1 v h q.2
theorem mLv_st1 {ls' : Array Slot} {nL : Nat} {ad : Nat → Nat} {Lo Lo' : mL} {i : Nat} {v : Value} (hs : mSt1 Lo i v = some Lo') (h : lv_has ls' nL ((i, mCv ad v) :: (mLv ad Lo).filter (fun q => !(q.1 == i) && !(q.1 + 1 == i && q.2.category == 2)))) : lv_has ls' nL (mLv ad Lo') ∧ Lo'.length = Lo.length := by
  unfold mSt1 at hs
  split at hs
  · rename_i hi
    cases hs
    refine ⟨⟨h.1, h.2.1, fun q hq => h.2.2 q ?_⟩, by rw [List.length_set, mClr_len]⟩
    obtain ⟨u, h1, h2⟩ := mLv_mem.mp hq
    rw [mGetD_set] at h1
    by_cases hj : q.1 = i
    · rw [if_pos hj, if_pos (by rw [mClr_len]; exact hi)] at h1
      cases h1
      exact List.mem_cons.mpr (Or.inl (Prod.ext hj h2))
    · rw [if_neg hj] at h1
      obtain ⟨h3, h4⟩ := mClr_get h1
      refine List.mem_cons_of_mem _ (List.mem_filter.mpr ⟨mLv_mem.mpr ⟨u, h3, h2⟩, ?_⟩)
      have e1 : (q.1 == i) = false := by simp [hj]
      have e2 : (q.1 + 1 == i && q.2.category == 2) = false := by
        rw [h2, mCv_cat]
        by_cases a : q.1 + 1 = i
        · have : ¬ u.category = 2 := fun z => h4 ⟨a, z⟩
          simp [this]
        · simp [a]
      rw [e1, e2]
      rfl
  · cases hs
theorem mLv_st2 {ls' : Array Slot} {nL : Nat} {ad : Nat → Nat} {Lo Lo' : mL} {i : Nat} {v : Value} (hs : mSt2 Lo i v = some Lo') (h : lv_has ls' nL ((i, mCv ad v) :: (mLv ad Lo).filter (fun q => !(q.1 == i) && (!(q.1 == i + 1) && !(q.1 + 1 == i && q.2.category == 2))))) : lv_has ls' nL (mLv ad Lo') ∧ Lo'.length = Lo.length := by
  unfold mSt2 at hs
  split at hs
  · rename_i hi
    cases hs
    refine ⟨⟨h.1, h.2.1, fun q hq => h.2.2 q ?_⟩, by rw [List.length_set, List.length_set, mClr_len]⟩
    obtain ⟨u, h1, h2⟩ := mLv_mem.mp hq
    rw [mGetD_set] at h1
    by_cases hj1 : q.1 = i + 1
    · rw [if_pos hj1] at h1
      split at h1 <;> cases h1
    · rw [if_neg hj1, mGetD_set] at h1
      by_cases hj : q.1 = i
      · rw [if_pos hj, if_pos (by rw [mClr_len]; omega)] at h1
        cases h1
        exact List.mem_cons.mpr (Or.inl (Prod.ext hj h2))
      · rw [if_neg hj] at h1
        obtain ⟨h3, h4⟩ := mClr_get h1
        refine List.mem_cons_of_mem _ (List.mem_filter.mpr ⟨mLv_mem.mpr ⟨u, h3, h2⟩, ?_⟩)
        have e1 : (q.1 == i) = false := by simp [hj]
        have e3 : (q.1 == i + 1) = false := by simp [hj1]
        have e2 : (q.1 + 1 == i && q.2.category == 2) = false := by
          rw [h2, mCv_cat]
          by_cases a : q.1 + 1 = i
          · have : ¬ u.category = 2 := fun z => h4 ⟨a, z⟩
            simp [this]
          · simp [a]
        rw [e1, e2, e3]
        rfl
  · cases hs
/-! a method's start -/
theorem mArg_sl (ad : Nat → Nat) : ∀ (as : List Value), (lg_sl (as.map (mCv ad))).length = (mArg as).length
  | [] => rfl
  | v :: r => by
    have ih := mArg_sl ad r
    unfold lg_sl at ih ⊢
    rw [List.map_cons, List.flatMap_cons, List.length_append, ih, mCv_cat]
    cases v <;> simp [mArg, Value.category] <;> omega
theorem mArg_at (ad : Nat → Nat) : ∀ (as : List Value) (i j : Nat) (v : Value), (mArg as).getD j none = some v → (i + j, mCv ad v) ∈ lv_args i (as.map (mCv ad))
  | [], i, j, v, h => by simp [mArg] at h
  | u :: r, i, j, v, h => by
    have ih := mArg_at ad r
    rw [List.map_cons, lv_args, mCv_cat]
    have one : ∀ (h : (some u :: mArg r).getD j none = some v), (i + j, mCv ad v) ∈ (i, mCv ad u) :: lv_args (i + 1) (r.map (mCv ad)) := by
      intro h
      cases j with
      | zero =>
        simp at h
        subst h
        exact List.mem_cons_self
      | succ j =>
        have := ih (i + 1) j v (by simpa using h)
        rw [show i + 1 + j = i + (j + 1) by omega] at this
        exact List.mem_cons_of_mem _ this
    have two : ∀ (h : (some u :: none :: mArg r).getD j none = some v), (i + j, mCv ad v) ∈ (i, mCv ad u) :: lv_args (i + 2) (r.map (mCv ad)) := by
      intro h
      cases j with
      | zero =>
        simp at h
        subst h
        exact List.mem_cons_self
      | succ j =>
        cases j with
        | zero => simp at h
        | succ j =>
          have := ih (i + 2) j v (by simpa using h)
          rw [show i + 2 + j = i + (j + 1 + 1) by omega] at this
          exact List.mem_cons_of_mem _ this
    cases u with
    | long x => exact two h
    | double x => exact two h
    | int x => exact one h
    | float x => exact one h
    | null => exact one h
    | ref x => exact one h
    | retAddr x => exact one h
theorem mIni_len {ml : Nat} {as : List Value} (h : (mArg as).length ≤ ml) : (mIni ml as).length = ml := by
  unfold mIni
  rw [List.length_append, List.length_replicate]
  omega
theorem mIni_has {ad : Nat → Nat} {ml : Nat} {as : List Value} (h : (mArg as).length ≤ ml) : lv_has ((lg_sl (as.map (mCv ad)) ++ List.replicate (ml - (lg_sl (as.map (mCv ad))).length) Slot.unset).toArray) ml (mLv ad (mIni ml as)) := by
  have hl := lv_entry (as.map (mCv ad)) (n := ml) (by rw [mArg_sl]; exact h)
  refine ⟨hl.1, hl.2.1, fun q hq => hl.2.2 q ?_⟩
  obtain ⟨v, h1, h2⟩ := mLv_mem.mp hq
  have h3 : (mArg as).getD q.1 none = some v := by
    unfold mIni at h1
    rw [List.getD_eq_getElem?_getD] at h1 ⊢
    by_cases hq : q.1 < (mArg as).length
    · rw [List.getElem?_append_left hq] at h1
      exact h1
    · rw [List.getElem?_append_right (by omega)] at h1
      by_cases hr : q.1 - (mArg as).length < ml - (mArg as).length
      · rw [List.getElem?_replicate, if_pos hr] at h1
        cases h1
      · rw [List.getElem?_replicate, if_neg hr] at h1
        cases h1
  have := mArg_at ad as 0 q.1 v h3
  rw [Nat.zero_add, ← h2] at this
  exact this
/-! the world as cells -/
def mFs (ad : Nat → Nat) (w : mW) (i ci : Nat) : List Value := (List.range (gFt.getD ci []).length).map (fun k => mCv ad (mFld w i k (gKi ci k)))
def mCell (cy : Nat → ClassId) (ad : Nat → Nat) (w : mW) (i : Nat) : va_E := match (wS w).getD i (0, 11) with
  | (0, ci) => .inr (ci, mFs ad w i ci)
  | (4, n) => .inl (cy 4, n, .inr (.inl (wJ w i)))
  | (5, n) => .inl (cy 5, n, .inr (.inr (.inr (.inr (fun k => (wR w i k).map ad)))))
  | (t, n) => .inl (cy t, n, .inl (wI w i))
def mWs (cy : Nat → ClassId) (ad : Nat → Nat) (w : mW) : va_W := (List.range (wS w).length).map (fun i => (ad i, mCell cy ad w i))
theorem mWs_len {cy : Nat → ClassId} {ad : Nat → Nat} {w : mW} : (mWs cy ad w).length = w.1.length := by simp [mWs]
theorem mWs_get {cy : Nat → ClassId} {ad : Nat → Nat} {w : mW} {i : Nat} (h : i < w.1.length) : (mWs cy ad w)[i]? = some (ad i, mCell cy ad w i) := by simp [mWs, h]
theorem mWs_of {cy : Nat → ClassId} {ad : Nat → Nat} {w : mW} {i : Nat} {q : Nat × va_E} (h : (mWs cy ad w)[i]? = some q) : i < w.1.length ∧ q = (ad i, mCell cy ad w i) := by
  have hl : i < w.1.length := by rw [← mWs_len (cy := cy) (ad := ad)]; exact (List.getElem?_eq_some_iff.mp h).1
  exact ⟨hl, Option.some.inj (h.symm.trans (mWs_get hl))⟩
theorem mSh {w : mW} {a : Nat} {q : Nat × Nat} (h : (wS w)[a]? = some q) : a < w.1.length ∧ (wS w).getD a (0, 11) = q := ⟨(List.getElem?_eq_some_iff.mp h).1, by rw [List.getD_eq_getElem?_getD, h]; rfl⟩
theorem mCell_o {cy : Nat → ClassId} {ad : Nat → Nat} {w : mW} {a ci : Nat} (h : (wS w)[a]? = some (0, ci)) : mCell cy ad w a = .inr (ci, mFs ad w a ci) := by unfold mCell; rw [(mSh h).2]; rfl
theorem mCell_1 {cy : Nat → ClassId} {ad : Nat → Nat} {w : mW} {a n : Nat} (h : (wS w)[a]? = some (1, n)) : mCell cy ad w a = .inl (cy 1, n, .inl (wI w a)) := by unfold mCell; rw [(mSh h).2]; rfl
theorem mCell_2 {cy : Nat → ClassId} {ad : Nat → Nat} {w : mW} {a n : Nat} (h : (wS w)[a]? = some (2, n)) : mCell cy ad w a = .inl (cy 2, n, .inl (wI w a)) := by unfold mCell; rw [(mSh h).2]; rfl
theorem mCell_3 {cy : Nat → ClassId} {ad : Nat → Nat} {w : mW} {a n : Nat} (h : (wS w)[a]? = some (3, n)) : mCell cy ad w a = .inl (cy 3, n, .inl (wI w a)) := by unfold mCell; rw [(mSh h).2]; rfl
theorem mCell_4 {cy : Nat → ClassId} {ad : Nat → Nat} {w : mW} {a n : Nat} (h : (wS w)[a]? = some (4, n)) : mCell cy ad w a = .inl (cy 4, n, .inr (.inl (wJ w a))) := by unfold mCell; rw [(mSh h).2]; rfl
theorem mCell_5 {cy : Nat → ClassId} {ad : Nat → Nat} {w : mW} {a n : Nat} (h : (wS w)[a]? = some (5, n)) : mCell cy ad w a = .inl (cy 5, n, .inr (.inr (.inr (.inr (fun k => (wR w a k).map ad))))) := by unfold mCell; rw [(mSh h).2]; rfl
theorem mCell_eq {cy : Nat → ClassId} {ad : Nat → Nat} {w w' : mW} {i : Nat} (h0 : (wS w').getD i (0, 11) = (wS w).getD i (0, 11)) (h1 : wI w' i = wI w i) (h2 : wJ w' i = wJ w i) (h3 : wR w' i = wR w i) : mCell cy ad w' i = mCell cy ad w i := by
  have hf : ∀ k t, mFld w' i k t = mFld w i k t := by
    intro k t
    unfold mFld
    rw [h1, h2, h3]
  have hg : ∀ ci, mFs ad w' i ci = mFs ad w i ci := by
    intro ci
    unfold mFs
    simp only [hf]
  unfold mCell
  rw [h0, h1, h2, h3]
  simp only [hg]
theorem mWs_set {cy : Nat → ClassId} {ad : Nat → Nat} {w w' : mW} {a : Nat} {e : va_E} (h0 : w'.1 = w.1) (ha : a < w.1.length) (he : mCell cy ad w' a = e) (ho : ∀ j, j ≠ a → mCell cy ad w' j = mCell cy ad w j) : (mWs cy ad w).set a (ad a, e) = mWs cy ad w' := by
  apply List.ext_getElem?
  intro j
  by_cases hl : j < w.1.length
  · rw [mWs_get (w := w') (by rw [h0]; exact hl)]
    by_cases hj : a = j
    · subst hj
      rw [List.getElem?_set_self (by rw [mWs_len]; exact hl), he]
    · rw [List.getElem?_set_ne hj, mWs_get hl, ho j (fun q => hj q.symm)]
  · rw [List.getElem?_eq_none (by rw [List.length_set, mWs_len]; omega), List.getElem?_eq_none (by rw [mWs_len, h0]; omega)]
theorem mSet_o {α : Type} {f : Nat → Nat → α} {a k j : Nat} {v : α} (h : j ≠ a) : mSet f a k v j = f j := if_neg h
theorem mSet_s {α : Type} {f : Nat → Nat → α} {a k : Nat} {v : α} : mSet f a k v a = va_up (f a) k v := if_pos rfl
theorem mUp_o {α : Type} {f : Nat → α} {k j : Nat} {v : α} (h : j ≠ k) : va_up f k v j = f j := if_neg h
theorem mUp_s {α : Type} {f : Nat → α} {k : Nat} {v : α} : va_up f k v k = v := if_pos rfl
theorem mFs_set {ad : Nat → Nat} {w w' : mW} {a ci k : Nat} {v : Value} (hk : k < (gFt.getD ci []).length) (hv : mCv ad (mFld w' a k (gKi ci k)) = v) (ho : ∀ j, j ≠ k → mFld w' a j (gKi ci j) = mFld w a j (gKi ci j)) : mFs ad w' a ci = (mFs ad w a ci).set k v := by
  apply List.ext_getElem?
  intro j
  unfold mFs
  by_cases hl : j < (gFt.getD ci []).length
  · by_cases hj : k = j
    · subst hj
      rw [List.getElem?_set_self (by simpa using hl)]
      simp only [List.getElem?_map, List.getElem?_range hl, Option.map_some, hv]
    · rw [List.getElem?_set_ne hj]
      simp only [List.getElem?_map, List.getElem?_range hl, Option.map_some, ho j (fun q => hj q.symm)]
  · rw [List.getElem?_eq_none (by simp only [List.length_map, List.length_range]; omega), List.getElem?_eq_none (by simp only [List.length_set, List.length_map, List.length_range]; omega)]
theorem mFs_get {ad : Nat → Nat} {w : mW} {a ci k : Nat} (hk : k < (gFt.getD ci []).length) : (mFs ad w a ci)[k]? = some (mCv ad (mFld w a k (gKi ci k))) := by
  unfold mFs
  simp only [List.getElem?_map, List.getElem?_range hk, Option.map_some]
theorem mWs_new {cy : Nat → ClassId} {ad : Nat → Nat} {w : mW} {q : Nat × Nat} {n : Nat} {e : va_E} (he : mCell cy ad (mNew w q n) w.1.length = e) : mWs cy ad w ++ [(ad w.1.length, e)] = mWs cy ad (mNew w q n) := by
  have h1 : wS (mNew w q n) = w.1 ++ [q] := rfl
  unfold mWs
  rw [h1, List.length_append, List.length_singleton, List.range_succ, List.map_append, List.map_singleton, he]
  refine congrArg (· ++ _) (List.map_congr_left fun i hi => ?_)
  have hi : i < w.1.length := List.mem_range.mp hi
  have hne : i ≠ w.1.length := by omega
  rw [mCell_eq (w := w) (w' := mNew w q n)]
  · rw [h1, List.getD_eq_getElem?_getD, List.getD_eq_getElem?_getD, List.getElem?_append_left hi]
  · exact mUp_o hne
  · exact mUp_o hne
  · exact mUp_o hne
theorem mNew_sh {w : mW} {q : Nat × Nat} {n : Nat} : (wS (mNew w q n))[w.1.length]? = some q := by
  show (w.1 ++ [q])[w.1.length]? = some q
  simp
theorem mD {cy : Nat → ClassId} {base b : Nat} {adK : Nat → Nat} {w : mW} (h : w.1.length ≤ 1000000) : va_D (fun q => base ≤ q) (mWs cy (mAd base b adK) w) := by
  refine ⟨fun i j x y hi hj hxy => ?_, fun k q hk => ?_⟩
  · obtain ⟨h1, rfl⟩ := mWs_of hi
    obtain ⟨h2, rfl⟩ := mWs_of hj
    dsimp only at hxy
    rw [mAd_lt (by omega), mAd_lt (by omega)] at hxy
    omega
  · obtain ⟨h1, rfl⟩ := mWs_of hk
    dsimp only
    rw [mAd_lt (by omega)]
    omega
theorem mSize {D : va_G} {cl : List vw_C} {cy : Nat → ClassId} {base b : Nat} {adK : Nat → Nat} {w : mW} {H : Heap} (h : w.1.length ≤ 1000000) (hb : base ≤ H.size) (hP : va_P D cl (mWs cy (mAd base b adK) w) H) : base + w.1.length ≤ H.size := by
  rcases Nat.eq_zero_or_pos w.1.length with h0 | h0
  · omega
  · have := (hP (w.1.length - 1) _ (mWs_get (by omega))).lt
    dsimp only at this
    rw [mAd_lt (by omega)] at this
    omega
end
section
/-! what each plain instruction asks and gives -/
section INV
variable {S : Nat × (Nat → Int32)} {d mi x k : Nat} {Lo : mL} {st : List Value} {w : mW} {q : mL × List Value × mW}
theorem mLdI_inv (h : mLdI Lo k st w = some q) : ∃ x, Lo.getD k none = some (.int x) ∧ q = (Lo, .int x :: st, w) := by
  unfold mLdI at h
  split at h
  · rename_i v hv; cases h; exact ⟨v, hv, rfl⟩
  · cases h
theorem mLdL_inv (h : mLdL Lo k st w = some q) : ∃ x, Lo.getD k none = some (.long x) ∧ q = (Lo, .long x :: st, w) := by
  unfold mLdL at h
  split at h
  · rename_i v hv; cases h; exact ⟨v, hv, rfl⟩
  · cases h
theorem mLdA_inv (h : mLdA Lo k st w = some q) : ∃ x, Lo.getD k none = some (.ref x) ∧ q = (Lo, .ref x :: st, w) := by
  unfold mLdA at h
  split at h
  · rename_i v hv; cases h; exact ⟨v, hv, rfl⟩
  · cases h
theorem mStI_inv (h : mStI Lo k st w = some q) : ∃ x r L, st = .int x :: r ∧ mSt1 Lo k (.int x) = some L ∧ q = (L, r, w) := by
  unfold mStI at h
  split at h
  · split at h
    · rename_i L hL; cases h; exact ⟨_, _, L, rfl, hL, rfl⟩
    · cases h
  · cases h
theorem mStL_inv (h : mStL Lo k st w = some q) : ∃ x r L, st = .long x :: r ∧ mSt2 Lo k (.long x) = some L ∧ q = (L, r, w) := by
  unfold mStL at h
  split at h
  · split at h
    · rename_i L hL; cases h; exact ⟨_, _, L, rfl, hL, rfl⟩
    · cases h
  · cases h
theorem mStA_inv (h : mStA Lo k st w = some q) : ∃ x r L, st = .ref x :: r ∧ mSt1 Lo k (.ref x) = some L ∧ q = (L, r, w) := by
  unfold mStA at h
  split at h
  · split at h
    · rename_i L hL; cases h; exact ⟨_, _, L, rfl, hL, rfl⟩
    · cases h
  · cases h
theorem mInc_inv {n : Int} (h : mInc Lo k n st w = some q) : ∃ x L, Lo.getD k none = some (.int x) ∧ mSt1 Lo k (.int (x + Int32.ofInt n)) = some L ∧ q = (L, st, w) := by
  unfold mInc at h
  split at h
  · rename_i v hv
    split at h
    · rename_i L hL; cases h; exact ⟨v, L, hv, hL, rfl⟩
    · cases h
  · cases h
theorem mDef_inv {i : Instr} (h : mDef i Lo st w = some q) : (∃ x y r v, st = .int y :: .int x :: r ∧ mBin i x y = some v ∧ q = (Lo, .int v :: r, w)) ∨ (∃ x y r v, st = .long y :: .long x :: r ∧ mBiL i x y = some v ∧ q = (Lo, .long v :: r, w)) ∨ (∃ x y r v, st = .int y :: .long x :: r ∧ mShL i x y = some v ∧ q = (Lo, .long v :: r, w)) := by
  unfold mDef at h
  split at h
  · split at h
    · rename_i v hv; cases h; exact Or.inl ⟨_, _, _, v, rfl, hv, rfl⟩
    · cases h
  · split at h
    · rename_i v hv; cases h; exact Or.inr (Or.inl ⟨_, _, _, v, rfl, hv, rfl⟩)
    · cases h
  · split at h
    · rename_i v hv; cases h; exact Or.inr (Or.inr ⟨_, _, _, v, rfl, hv, rfl⟩)
    · cases h
  · cases h
theorem mUnI_inv {f : Int32 → Value} (h : mUnI f Lo st w = some q) : ∃ x r, st = .int x :: r ∧ q = (Lo, f x :: r, w) := by
  unfold mUnI at h
  split at h
  · cases h; exact ⟨_, _, rfl, rfl⟩
  · cases h
theorem mUnL_inv {f : Int64 → Value} (h : mUnL f Lo st w = some q) : ∃ x r, st = .long x :: r ∧ q = (Lo, f x :: r, w) := by
  unfold mUnL at h
  split at h
  · cases h; exact ⟨_, _, rfl, rfl⟩
  · cases h
theorem mCmp_inv (h : mCmp Lo st w = some q) : ∃ x y r, st = .long y :: .long x :: r ∧ q = (Lo, .int (lg_cmp x y) :: r, w) := by
  unfold mCmp at h
  split at h
  · cases h; exact ⟨_, _, _, rfl, rfl⟩
  · cases h
theorem mDup_inv (h : mDup Lo st w = some q) : ∃ v r, st = v :: r ∧ v.category = 1 ∧ q = (Lo, v :: v :: r, w) := by
  unfold mDup at h
  split at h
  · cases h; exact ⟨_, _, rfl, rfl, rfl⟩
  · cases h; exact ⟨_, _, rfl, rfl, rfl⟩
  · cases h
theorem mPp_inv (h : mPp Lo st w = some q) : ∃ v r, st = v :: r ∧ v.category = 1 ∧ q = (Lo, r, w) := by
  unfold mPp at h
  split at h
  · cases h; exact ⟨_, _, rfl, rfl, rfl⟩
  · cases h; exact ⟨_, _, rfl, rfl, rfl⟩
  · cases h
theorem mDup2_inv (h : mDup2 Lo st w = some q) : ∃ x y r, st = .int x :: .ref y :: r ∧ q = (Lo, .int x :: .ref y :: .int x :: .ref y :: r, w) := by
  unfold mDup2 at h
  split at h
  · cases h; exact ⟨_, _, _, rfl, rfl⟩
  · cases h
theorem mLdc_inv (h : mLdc mi x Lo st w = some q) : (∃ v, mLk gCon (gO mi) x = some (.int v) ∧ q = (Lo, .int v :: st, w)) ∨ ∃ v, mLk gCon (gO mi) x = some (.ref v) ∧ q = (Lo, .ref v :: st, w) := by
  unfold mLdc at h
  split at h
  · rename_i v hv; cases h; exact Or.inl ⟨v, hv, rfl⟩
  · rename_i v hv; cases h; exact Or.inr ⟨v, hv, rfl⟩
  · cases h
theorem mLdcW_inv (h : mLdcW mi x Lo st w = some q) : ∃ v, mLk gCon (gO mi) x = some (.int v) ∧ q = (Lo, .int v :: st, w) := by
  unfold mLdcW at h
  split at h
  · rename_i v hv; cases h; exact ⟨v, hv, rfl⟩
  · cases h
theorem mLdc2_inv (h : mLdc2 mi x Lo st w = some q) : ∃ v, mLk gCon (gO mi) x = some (.long v) ∧ q = (Lo, .long v :: st, w) := by
  unfold mLdc2 at h
  split at h
  · rename_i v hv; cases h; exact ⟨v, hv, rfl⟩
  · cases h
theorem mGet_inv (h : mGet mi x Lo st w = some q) : ∃ a r ci k, st = .ref a :: r ∧ mLk gF (gO mi) x = some (ci, k) ∧ (wS w)[a]? = some (0, ci) ∧ q = (Lo, mFld w a k (gKi ci k) :: r, w) := by
  unfold mGet at h
  split at h
  · split at h
    · rename_i ci k hk
      split at h
      · rename_i hs; cases h; exact ⟨_, _, ci, k, rfl, hk, hs, rfl⟩
      · cases h
    · cases h
  · cases h
theorem mPut_inv (h : mPut mi x Lo st w = some q) : ∃ v a r ci k w1, st = v :: .ref a :: r ∧ mLk gF (gO mi) x = some (ci, k) ∧ (wS w)[a]? = some (0, ci) ∧ q = (Lo, r, w1) ∧ ((∃ z, v = .int z ∧ gFi ci k = false ∧ (gKi ci k = 0 ∨ (gKi ci k = 3 ∧ (z = 0 ∨ z = 1))) ∧ w1 = wsI w (mSet (wI w) a k z)) ∨ (∃ z, v = .long z ∧ gFi ci k = false ∧ gKi ci k = 1 ∧ w1 = wsJ w (mSet (wJ w) a k z)) ∨ (∃ z, v = .ref z ∧ gFi ci k = true ∧ gKi ci k = 2 ∧ (gMe mi).2.2.2.2.2.2 = 2 ∧ gO mi = ci ∧ w1 = wsR w (mSet (wR w) a k (some z)))) := by
  unfold mPut at h
  split at h
  · split at h
    · rename_i ci k hk
      split at h
      · rename_i hs; cases h; exact ⟨_, _, _, ci, k, _, rfl, hk, hs.1, rfl, Or.inl ⟨_, rfl, hs.2.1, hs.2.2, rfl⟩⟩
      · cases h
    · cases h
  · split at h
    · rename_i ci k hk
      split at h
      · rename_i hs; cases h; exact ⟨_, _, _, ci, k, _, rfl, hk, hs.1, rfl, Or.inr (Or.inl ⟨_, rfl, hs.2.1, hs.2.2, rfl⟩)⟩
      · cases h
    · cases h
  · split at h
    · rename_i ci k hk
      split at h
      · rename_i hs; cases h; exact ⟨_, _, _, ci, k, _, rfl, hk, hs.1, rfl, Or.inr (Or.inr ⟨_, rfl, hs.2.1, hs.2.2.1, hs.2.2.2.1, hs.2.2.2.2, rfl⟩)⟩
      · cases h
    · cases h
  · cases h
theorem mIal_inv (h : mIal S mi Lo st w = some q) : ∃ j a r, st = .int j :: .ref a :: r ∧ ((a = mScr ∧ mi = 0 ∧ ¬ mOut j S.1 ∧ q = (Lo, .int (S.2 j.toNatClampNeg) :: r, w)) ∨ ∃ n, (wS w)[a]? = some (1, n) ∧ ¬ mOut j n ∧ q = (Lo, .int (wI w a j.toNatClampNeg) :: r, w)) := by
  unfold mIal at h
  split at h
  · split at h
    · rename_i ha
      split at h
      · cases h
      · rename_i ho; cases h; exact ⟨_, _, _, rfl, Or.inl ⟨ha.1, ha.2, ho, rfl⟩⟩
    · split at h
      · rename_i n hn
        split at h
        · cases h
        · rename_i ho; cases h; exact ⟨_, _, _, rfl, Or.inr ⟨n, hn, ho, rfl⟩⟩
      · cases h
  · cases h
theorem mBal_inv (h : mBal Lo st w = some q) : ∃ j a r n, st = .int j :: .ref a :: r ∧ ((wS w)[a]? = some (2, n) ∨ (wS w)[a]? = some (3, n)) ∧ ¬ mOut j n ∧ q = (Lo, .int (wI w a j.toNatClampNeg) :: r, w) := by
  unfold mBal at h
  split at h
  · split at h
    · rename_i n hn
      split at h
      · cases h
      · rename_i ho; cases h; exact ⟨_, _, _, n, rfl, Or.inl hn, ho, rfl⟩
    · rename_i n hn
      split at h
      · cases h
      · rename_i ho; cases h; exact ⟨_, _, _, n, rfl, Or.inr hn, ho, rfl⟩
    · cases h
  · cases h
theorem mLal_inv (h : mLal Lo st w = some q) : ∃ j a r n, st = .int j :: .ref a :: r ∧ (wS w)[a]? = some (4, n) ∧ ¬ mOut j n ∧ q = (Lo, .long (wJ w a j.toNatClampNeg) :: r, w) := by
  unfold mLal at h
  split at h
  · split at h
    · rename_i n hn
      split at h
      · cases h
      · rename_i ho; cases h; exact ⟨_, _, _, n, rfl, hn, ho, rfl⟩
    · cases h
  · cases h
theorem mAal_inv (h : mAal Lo st w = some q) : ∃ j a r n, st = .int j :: .ref a :: r ∧ (wS w)[a]? = some (5, n) ∧ ¬ mOut j n ∧ q = (Lo, mRf (wR w a j.toNatClampNeg) :: r, w) := by
  unfold mAal at h
  split at h
  · split at h
    · rename_i n hn
      split at h
      · cases h
      · rename_i ho; cases h; exact ⟨_, _, _, n, rfl, hn, ho, rfl⟩
    · cases h
  · cases h
theorem mIas_inv (h : mIas Lo st w = some q) : ∃ v j a r n, st = .int v :: .int j :: .ref a :: r ∧ (wS w)[a]? = some (1, n) ∧ ¬ mOut j n ∧ q = (Lo, r, wsI w (mSet (wI w) a j.toNatClampNeg v)) := by
  unfold mIas at h
  split at h
  · split at h
    · rename_i n hn
      split at h
      · cases h
      · rename_i ho; cases h; exact ⟨_, _, _, _, n, rfl, hn, ho, rfl⟩
    · cases h
  · cases h
theorem mBas_inv (h : mBas Lo st w = some q) : ∃ v j a r n, st = .int v :: .int j :: .ref a :: r ∧ ¬ mOut j n ∧ (((wS w)[a]? = some (2, n) ∧ q = (Lo, r, wsI w (mSet (wI w) a j.toNatClampNeg (vp_nar .byte v)))) ∨ ((wS w)[a]? = some (3, n) ∧ q = (Lo, r, wsI w (mSet (wI w) a j.toNatClampNeg (vp_nar .boolean v))))) := by
  unfold mBas at h
  split at h
  · split at h
    · rename_i n hn
      split at h
      · cases h
      · rename_i ho; cases h; exact ⟨_, _, _, _, n, rfl, ho, Or.inl ⟨hn, rfl⟩⟩
    · rename_i n hn
      split at h
      · cases h
      · rename_i ho; cases h; exact ⟨_, _, _, _, n, rfl, ho, Or.inr ⟨hn, rfl⟩⟩
    · cases h
  · cases h
theorem mLas_inv (h : mLas Lo st w = some q) : ∃ v j a r n, st = .long v :: .int j :: .ref a :: r ∧ (wS w)[a]? = some (4, n) ∧ ¬ mOut j n ∧ q = (Lo, r, wsJ w (mSet (wJ w) a j.toNatClampNeg v)) := by
  unfold mLas at h
  split at h
  · split at h
    · rename_i n hn
      split at h
      · cases h
      · rename_i ho; cases h; exact ⟨_, _, _, _, n, rfl, hn, ho, rfl⟩
    · cases h
  · cases h
theorem mAas_inv (h : mAas Lo st w = some q) : ∃ v j a r n, st = .ref v :: .int j :: .ref a :: r ∧ (wS w)[a]? = some (5, n) ∧ ¬ mOut j n ∧ (wS w)[v]? = some (0, 2) ∧ q = (Lo, r, wsR w (mSet (wR w) a j.toNatClampNeg (some v))) := by
  unfold mAas at h
  split at h
  · split at h
    · rename_i n hn
      split at h
      · cases h
      · rename_i ho; cases h; exact ⟨_, _, _, _, n, rfl, hn, fun z => ho (Or.inl z), Classical.not_not.mp (fun z => ho (Or.inr z)), rfl⟩
    · cases h
  · cases h
theorem mAln_inv (h : mAln S mi Lo st w = some q) : ∃ a r, st = .ref a :: r ∧ ((a = mScr ∧ mi = 0 ∧ q = (Lo, .int (Int32.ofNat S.1) :: r, w)) ∨ ∃ n, ((wS w)[a]? = some (1, n) ∨ (wS w)[a]? = some (4, n)) ∧ q = (Lo, .int (Int32.ofNat n) :: r, w)) := by
  unfold mAln at h
  split at h
  · split at h
    · rename_i ha; cases h; exact ⟨_, _, rfl, Or.inl ⟨ha.1, ha.2, rfl⟩⟩
    · split at h
      · rename_i n hn; cases h; exact ⟨_, _, rfl, Or.inr ⟨n, Or.inl hn, rfl⟩⟩
      · rename_i n hn; cases h; exact ⟨_, _, rfl, Or.inr ⟨n, Or.inr hn, rfl⟩⟩
      · cases h
  · cases h
theorem mNwa_inv {t : ArrayType} (h : mNwa t Lo st w = some q) : ∃ n r, st = .int n :: r ∧ ¬ n < 0 ∧ n.toNatClampNeg ≤ 100000 ∧ w.1.length < 1000000 ∧ ¬ mAk t = 9 ∧ q = (Lo, .ref w.1.length :: r, mNew w (mAk t, n.toNatClampNeg) n.toNatClampNeg) := by
  unfold mNwa at h
  split at h
  · split at h
    · cases h
    · rename_i ho
      cases h
      exact ⟨_, _, rfl, fun z => ho (Or.inl z), Nat.le_of_not_lt (fun z => ho (Or.inr (Or.inl z))), Nat.lt_of_not_le (fun z => ho (Or.inr (Or.inr (Or.inl z)))), fun z => ho (Or.inr (Or.inr (Or.inr z))), rfl⟩
  · cases h
theorem mNwq_inv (h : mNwq mi x Lo st w = some q) : ∃ n r, st = .int n :: r ∧ ¬ n < 0 ∧ n.toNatClampNeg ≤ 100000 ∧ w.1.length < 1000000 ∧ mLk gNew (gO mi) x = some 2 ∧ q = (Lo, .ref w.1.length :: r, mNew w (5, n.toNatClampNeg) n.toNatClampNeg) := by
  unfold mNwq at h
  split at h
  · split at h
    · cases h
    · rename_i ho
      cases h
      exact ⟨_, _, rfl, fun z => ho (Or.inl z), Nat.le_of_not_lt (fun z => ho (Or.inr (Or.inl z))), Nat.lt_of_not_le (fun z => ho (Or.inr (Or.inr (Or.inl z)))), Classical.not_not.mp (fun z => ho (Or.inr (Or.inr (Or.inr z)))), rfl⟩
  · cases h
theorem mNwo_inv (h : mNwo mi x Lo st w = some q) : ∃ ci, mLk gNew (gO mi) x = some ci ∧ ci < 11 ∧ w.1.length < 1000000 ∧ q = (Lo, .ref w.1.length :: st, mNew w (0, ci) (gFt.getD ci []).length) := by
  unfold mNwo at h
  split at h
  · rename_i ci hci
    split at h
    · cases h
    · rename_i ho
      cases h
      exact ⟨ci, hci, Nat.lt_of_not_le (fun z => ho (Or.inl z)), Nat.lt_of_not_le (fun z => ho (Or.inr z)), rfl⟩
  · cases h
theorem mIsp_inv (h : mIsp d mi x Lo st w = some q) : ∃ a r, st = .ref a :: r ∧ (mLk gCall (gO mi) x).map (·.1) = some 1000 ∧ 0 < d ∧ mCat r ≤ 8 ∧ q = (Lo, r, w) := by
  unfold mIsp at h
  split at h
  · split at h
    · rename_i ho; cases h; exact ⟨_, _, rfl, ho.1, ho.2.1, ho.2.2, rfl⟩
    · cases h
  · cases h
theorem mM2_inv {f : Int32 → Int32 → Int32} (h : mM2 f d Lo st w = some q) : ∃ x y r, st = .int y :: .int x :: r ∧ 0 < d ∧ mCat r ≤ 8 ∧ q = (Lo, .int (f x y) :: r, w) := by
  unfold mM2 at h
  split at h
  · split at h
    · rename_i ho; cases h; exact ⟨_, _, _, rfl, ho.1, ho.2, rfl⟩
    · cases h
  · cases h
theorem mM1_inv {f : Int32 → Int32} (h : mM1 f d Lo st w = some q) : ∃ x r, st = .int x :: r ∧ 0 < d ∧ mCat r ≤ 8 ∧ q = (Lo, .int (f x) :: r, w) := by
  unfold mM1 at h
  split at h
  · split at h
    · rename_i ho; cases h; exact ⟨_, _, rfl, ho.1, ho.2, rfl⟩
    · cases h
  · cases h
theorem mAcp_inv (h : mAcp d Lo st w = some q) : ∃ n dp a sp a0 r n0 n1, st = .int n :: .int dp :: .ref a :: .int sp :: .ref a0 :: r ∧ 0 < d ∧ mCat r ≤ 8 ∧ ¬ sp < 0 ∧ ¬ dp < 0 ∧ ¬ n < 0 ∧ sp.toNatClampNeg + n.toNatClampNeg ≤ n0 ∧ dp.toNatClampNeg + n.toNatClampNeg ≤ n1 ∧ (((wS w)[a0]? = some (1, n0) ∧ (wS w)[a]? = some (1, n1) ∧ q = (Lo, r, wsI w (va_up (wI w) a (va_cpy (wI w a0) (wI w a) sp.toNatClampNeg dp.toNatClampNeg n.toNatClampNeg)))) ∨ ((wS w)[a0]? = some (4, n0) ∧ (wS w)[a]? = some (4, n1) ∧ q = (Lo, r, wsJ w (va_up (wJ w) a (va_cpy (wJ w a0) (wJ w a) sp.toNatClampNeg dp.toNatClampNeg n.toNatClampNeg))))) := by
  unfold mAcp at h
  split at h
  · split at h
    · rename_i ho
      unfold mCpy at h
      split at h
      · rename_i n0 n1 h0 h1
        split at h
        · cases h
        · rename_i hz
          cases h
          exact ⟨_, _, _, _, _, _, n0, n1, rfl, ho.1, ho.2.1, ho.2.2.1, ho.2.2.2.1, ho.2.2.2.2, Nat.le_of_not_lt (fun z => hz (Or.inl z)), Nat.le_of_not_lt (fun z => hz (Or.inr z)), Or.inl ⟨h0, h1, rfl⟩⟩
      · rename_i n0 n1 h0 h1
        split at h
        · cases h
        · rename_i hz
          cases h
          exact ⟨_, _, _, _, _, _, n0, n1, rfl, ho.1, ho.2.1, ho.2.2.1, ho.2.2.2.1, ho.2.2.2.2, Nat.le_of_not_lt (fun z => hz (Or.inl z)), Nat.le_of_not_lt (fun z => hz (Or.inr z)), Or.inr ⟨h0, h1, rfl⟩⟩
      · cases h
    · cases h
  · cases h
theorem mIst_inv (h : mIst d mi x Lo st w = some q) : ∃ sp nn, mLk gCall (gO mi) x = some (sp, nn) ∧ ((sp = 1001 ∧ mAcp d Lo st w = some q) ∨ (sp = 1005 ∧ mM2 (fun x y => if x < y then y else x) d Lo st w = some q) ∨ (sp = 1006 ∧ mM2 (fun x y => if y < x then y else x) d Lo st w = some q) ∨ (sp = 1007 ∧ mM1 (fun x => if 0 ≤ x then x else 0 - x) d Lo st w = some q)) := by
  unfold mIst at h
  split at h
  · rename_i hc; exact ⟨_, _, hc, Or.inl ⟨rfl, h⟩⟩
  · rename_i hc; exact ⟨_, _, hc, Or.inr (Or.inl ⟨rfl, h⟩)⟩
  · rename_i hc; exact ⟨_, _, hc, Or.inr (Or.inr (Or.inl ⟨rfl, h⟩))⟩
  · rename_i hc; exact ⟨_, _, hc, Or.inr (Or.inr (Or.inr ⟨rfl, h⟩))⟩
  · cases h
theorem mSln_inv (h : mSln d Lo st w = some q) : ∃ a r, st = .ref a :: r ∧ 3 ≤ d ∧ mCat r ≤ 8 ∧ mScr < a ∧ a ≤ 1000005 ∧ q = (Lo, .int (Int32.ofNat (gSb.getD (a - 1000001) []).length) :: r, w) := by
  unfold mSln at h
  split at h
  · split at h
    · rename_i ho; cases h; exact ⟨_, _, rfl, ho.1, ho.2.1, ho.2.2.1, ho.2.2.2, rfl⟩
    · cases h
  · cases h
theorem mSch_inv (h : mSch d Lo st w = some q) : ∃ j a r, st = .int j :: .ref a :: r ∧ 6 ≤ d ∧ mCat r ≤ 8 ∧ mScr < a ∧ a ≤ 1000005 ∧ ¬ mOut j (gSb.getD (a - 1000001) []).length ∧ q = (Lo, .int ((gSb.getD (a - 1000001) []).getD j.toNatClampNeg 0) :: r, w) := by
  unfold mSch at h
  split at h
  · split at h
    · rename_i ho; cases h; exact ⟨_, _, _, rfl, ho.1, ho.2.1, ho.2.2.1, ho.2.2.2.1, ho.2.2.2.2, rfl⟩
    · cases h
  · cases h
theorem mIvt_inv (h : mIvt d mi x Lo st w = some q) : ∃ sp nn, mLk gCall (gO mi) x = some (sp, nn) ∧ ((sp = 1002 ∧ mSln d Lo st w = some q) ∨ (sp = 1003 ∧ mSch d Lo st w = some q)) := by
  unfold mIvt at h
  split at h
  · rename_i hc; exact ⟨_, _, hc, Or.inl ⟨rfl, h⟩⟩
  · rename_i hc; exact ⟨_, _, hc, Or.inr ⟨rfl, h⟩⟩
  · cases h
end INV
end
section
def lwG : List Cond := lw_tbl.filter goodWord
theorem lwG_in {w : Cond} (h : w ∈ lw_tbl) (g : goodWord w = true) : w ∈ lwG := List.mem_filter.mpr ⟨h, g⟩
theorem lwG_good {w : Cond} (h : w ∈ lwG) : goodWord w = true := (List.mem_filter.mp h).2
theorem mLk_mem {α : Type} : ∀ {l : List (Nat × Nat × α)} {o x : Nat} {v : α}, mLk l o x = some v → (o, x, v) ∈ l
  | [], _, _, _, h => by cases h
  | (a, b, u) :: r, o, x, v, h => by
    unfold mLk at h
    split at h
    · rename_i hc
      rw [Bool.and_eq_true] at hc
      have h1 : a = o := Nat.eq_of_beq_eq_true hc.1
      have h2 : b = x := Nat.eq_of_beq_eq_true hc.2
      cases h
      subst h1
      subst h2
      exact List.mem_cons_self
    · exact List.mem_cons_of_mem _ (mLk_mem h)
theorem mZip {α β : Type} {f : α × β → Bool} : ∀ {l : List α} {r : List β}, (l.zip r).all f = true → l.length = r.length → ∀ a ∈ l, ∃ b, f (a, b) = true
  | [], _, _, _, a, h => by cases h
  | x :: l, [], _, h, _, _ => by cases h
  | x :: l, y :: r, h, hl, a, ha => by
    rw [List.zip_cons_cons, List.all_cons, Bool.and_eq_true] at h
    rcases List.mem_cons.mp ha with rfl | ha
    · exact ⟨y, h.1⟩
    · exact mZip h.2 (by simpa using hl) a ha
theorem gF_ok {o x ci k : Nat} (h : mLk gF o x = some (ci, k)) : Cond.fieldLink (gOwn.getD o "") x ((gc ci).2.1 k).1 ((gc ci).2.1 k).2.1 ((gc ci).2.1 k).2.2.1 ∈ lwG ∧ k < (gc ci).2.2 ∧ ci < 11 := by
  obtain ⟨p, hp⟩ := mZip gF_ck gF_len _ (mLk_mem h)
  unfold gFck at hp
  rw [Bool.and_eq_true, Bool.and_eq_true] at hp
  exact ⟨lwG_in (gIn (of_decide_eq_true hp.1.1)) rfl, of_decide_eq_true hp.1.2, of_decide_eq_true hp.2⟩
theorem gC_ok {o x mj nn : Nat} (h : mLk gCall o x = some (mj, nn)) : ((nn = 0 ∧ Cond.methodLink (gOwn.getD o "") x (gSpY mj) ∈ lwG) ∨ (nn = 1 ∧ Cond.methodLinkNest (gOwn.getD o "") x (gSpY mj) "HouseClaps" ∈ lw_tbl)) ∧ (mj < 253 ∨ 1000 ≤ mj) ∧ mj ≠ 0 := by
  obtain ⟨p, hp⟩ := mZip gC_ck gC_len _ (mLk_mem h)
  unfold gCck at hp
  rw [Bool.and_eq_true, Bool.and_eq_true, Bool.and_eq_true, Bool.or_eq_true, Bool.or_eq_true] at hp
  obtain ⟨⟨⟨h1, h2⟩, h3⟩, h4⟩ := hp
  have h1 := gIn (of_decide_eq_true h1)
  refine ⟨?_, ?_, ?_⟩
  · rcases h3 with h3 | h3
    · have h3 : nn = 0 := of_decide_eq_true h3
      subst h3
      exact Or.inl ⟨rfl, lwG_in h1 rfl⟩
    · have h3 : nn = 1 := of_decide_eq_true h3
      subst h3
      exact Or.inr ⟨rfl, h1⟩
  · rcases h2 with h2 | h2
    · exact Or.inl (of_decide_eq_true h2)
    · exact Or.inr (of_decide_eq_true h2)
  · intro z
    subst z
    simp at h4
theorem gN_ok {o x ci : Nat} (h : mLk gNew o x = some ci) : Cond.classLink (gOwn.getD o "") x (gc ci).1 ∈ lwG ∧ ci < 12 := by
  obtain ⟨p, hp⟩ := mZip gN_ck gN_len _ (mLk_mem h)
  unfold gNck at hp
  rw [Bool.and_eq_true] at hp
  exact ⟨lwG_in (gIn (of_decide_eq_true hp.1)) rfl, of_decide_eq_true hp.2⟩
theorem gK_int {o x : Nat} {v : Int32} (h : mLk gCon o x = some (.int v)) : Cond.constant (gOwn.getD o "") x v ∈ lwG := by
  obtain ⟨p, hp⟩ := mZip gK_ck gK_len _ (mLk_mem h)
  exact lwG_in (gIn (of_decide_eq_true hp)) rfl
theorem gK_long {o x : Nat} {v : Int64} (h : mLk gCon o x = some (.long v)) : Cond.constantLong (gOwn.getD o "") x v ∈ lwG := by
  obtain ⟨p, hp⟩ := mZip gK_ck gK_len _ (mLk_mem h)
  exact lwG_in (gIn (of_decide_eq_true hp)) rfl
theorem gWsG {ci : Nat} (h : ci < 11) : ∀ w ∈ u_ws (gc ci).1 (gc ci).2.1 (gc ci).2.2, w ∈ lwG := by
  intro w hw
  refine lwG_in ((gOkAll ci h).1 w hw) ?_
  obtain ⟨k, -, rfl⟩ := List.mem_map.mp hw
  unfold u_lay
  split <;> rfl
theorem gM_ok {mi : Nat} (h : mi < 253) (hl : gLw mi = false) : gMOK mi := gMa_253 mi h hl
theorem gOwnC : ∀ ci, ci < 11 → gOwn.getD ci "" = (gc ci).1 := by decide +kernel
theorem gD_at {mi pc len : Nat} {i : Instr} (h : mi < 253) (hc : cod mi pc = some (i, len)) : decode (gMe mi).2.1 pc = .ok (i, len) ∧ mFwd pc i = true ∧ (mLen i = len ∨ mLen i = 0) := by
  have ha := gDa_253 mi h
  have hm : ∀ (l : List (Nat × Instr × Nat)), mFind l pc = some (i, len) → (pc, i, len) ∈ l := by
    intro l
    induction l with
    | nil => intro h; cases h
    | cons q r ih =>
      obtain ⟨p, z⟩ := q
      intro h
      unfold mFind at h
      split at h
      · rename_i hp
        have hp : p = pc := Nat.eq_of_beq_eq_true hp
        cases h
        subst hp
        exact List.mem_cons_self
      · exact List.mem_cons_of_mem _ (ih h)
  have hx := List.all_eq_true.mp ha _ (hm _ hc)
  unfold gDck at hx
  rw [Bool.and_eq_true, Bool.and_eq_true, Bool.or_eq_true] at hx
  exact ⟨of_decide_eq_true hx.1.1, hx.1.2, hx.2.imp of_decide_eq_true of_decide_eq_true⟩
theorem gA_int : Cond.arrayClass .int ∈ lwG := lwG_in (gTb1 (p := 50) rfl) rfl
theorem gA_long : Cond.arrayClass .long ∈ lwG := lwG_in (gTb1 (p := 147) rfl) rfl
theorem gA_byte : Cond.arrayClass .byte ∈ lwG := lwG_in (gTb3 (p := 225) rfl) rfl
theorem gA_bool : Cond.arrayClass .boolean ∈ lwG := lwG_in (gTb6 (p := 231) rfl) rfl
theorem gA_ev : Cond.arrayOver (.object RX2) ∈ lw_tbl := gTb1 (p := 192) rfl
theorem gOi : Cond.instanceMethod objectInit ∈ lwG := lwG_in (gTb1 (p := 31) rfl) rfl
theorem gOc : Cond.code objectInit ⟨#[0xb1]⟩ 1 none ∈ lwG := lwG_in (gTb1 (p := 32) rfl) rfl
theorem gMmin : Cond.static Lib.Math.min.name ∈ lwG := lwG_in (gTb3 (p := 24) rfl) rfl
theorem gMminC : Cond.code Lib.Math.min.name Lib.Math.min.code 2 (some .int) ∈ lwG := lwG_in (gTb3 (p := 25) rfl) rfl
theorem gMmax : Cond.static Lib.Math.max.name ∈ lwG := lwG_in (gTb3 (p := 202) rfl) rfl
theorem gMmaxC : Cond.code Lib.Math.max.name Lib.Math.max.code 2 (some .int) ∈ lwG := lwG_in (gTb3 (p := 203) rfl) rfl
theorem gMabs : Cond.static Lib.Math.abs.name ∈ lwG := lwG_in (gTb5 (p := 231) rfl) rfl
theorem gMabsC : Cond.code Lib.Math.abs.name Lib.Math.abs.code 1 (some .int) ∈ lwG := lwG_in (gTb5 (p := 232) rfl) rfl
theorem gMini : Cond.initialized "java/lang/Math" ∈ lwG := lwG_in (gTb1 (p := 13) rfl) rfl
theorem gSyi : Cond.initialized "java/lang/System" ∈ lwG := lwG_in (gTb1 (p := 18) rfl) rfl
theorem gCps : Cond.static arraycopyName ∈ lwG := lwG_in (gTb3 (p := 214) rfl) rfl
theorem gCpn : Cond.native arraycopyName ∈ lwG := lwG_in (gTb3 (p := 215) rfl) rfl
end
section
theorem gNest : ∀ q ∈ gCall, q.2.2.2 = 1 → q.2.2.1 < 1000 := by decide +kernel
theorem mSt1_lt {Lo L : mL} {k : Nat} {v : Value} (h : mSt1 Lo k v = some L) : k < Lo.length := by
  unfold mSt1 at h
  split at h
  · assumption
  · cases h
theorem mSt2_lt {Lo L : mL} {k : Nat} {v : Value} (h : mSt2 Lo k v = some L) : k + 1 < Lo.length := by
  unfold mSt2 at h
  split at h
  · assumption
  · cases h
/-- String.length and String.charAt of the five texts, as steps -/
def mStrOk (l : Launch) (base b : Nat) (adK : Nat → Nat) (Sx : State → Prop) : Prop :=
  (∀ {p : Program} {e : Env} {R : Room} {s : State} {m : MethodId} {args : Array Value} {below : List Frame} {meth : Method} {c : Code} {H : Heap} {locs : List Loc} {cells slots : Nat} {Q : State → Prop} {pc : Nat} {cc : ByteArray} {own : String} {ls : Array Slot} {rest : List Value} {a k : Nat}, p.tables.exec = Jvm.exec → c.code = cc → c.maxLocals = ls.size → s.vm.findClass own = some m.cls → (∀ w ∈ lwG, w.before args s = true) → Sx s → va_S (fun q => base ≤ q) s.heap H locs → base ≤ s.heap.size → Cond.methodLink own k yJ0_length_8abf5 ∈ lwG → 3 ≤ R.frames → 180 ≤ R.locals → mScr < a → a ≤ 1000005 → mCat rest ≤ 8 → cells ≤ R.cells → slots ≤ R.slots → decode cc pc = .ok (.invokevirtual k, 3) → W p l e R s m args below meth c H locs cells slots Q (F0 m (pc + 3) ls (.int (Int32.ofNat (gSb.getD (a - 1000001) []).length) :: rest)) → W p l e R s m args below meth c H locs cells slots Q (F0 m pc ls (.ref (mAd base b adK a) :: rest))) ∧
  (∀ {p : Program} {e : Env} {R : Room} {s : State} {m : MethodId} {args : Array Value} {below : List Frame} {meth : Method} {c : Code} {H : Heap} {locs : List Loc} {cells slots : Nat} {Q : State → Prop} {pc : Nat} {cc : ByteArray} {own : String} {ls : Array Slot} {rest : List Value} {a k : Nat} {j : Int32}, p.tables.exec = Jvm.exec → c.code = cc → c.maxLocals = ls.size → s.vm.findClass own = some m.cls → (∀ w ∈ lwG, w.before args s = true) → Sx s → va_S (fun q => base ≤ q) s.heap H locs → base ≤ s.heap.size → Cond.methodLink own k yJ0_charAt_5068e ∈ lwG → 6 ≤ R.frames → 360 ≤ R.locals → mScr < a → a ≤ 1000005 → ¬ mOut j (gSb.getD (a - 1000001) []).length → mCat rest ≤ 8 → cells ≤ R.cells → slots ≤ R.slots → decode cc pc = .ok (.invokevirtual k, 3) → W p l e R s m args below meth c H locs cells slots Q (F0 m (pc + 3) ls (.int ((gSb.getD (a - 1000001) []).getD j.toNatClampNeg 0) :: rest)) → W p l e R s m args below meth c H locs cells slots Q (F0 m pc ls (.int j :: .ref (mAd base b adK a) :: rest)))
/-! ONE PLAIN INSTRUCTION OF THE SMALL MACHINE IS ONE OF THE JVM -/
def mTys (cy : Nat → ClassId) : List (ClassId × FieldType) := [(cy 1, .int), (cy 2, .byte), (cy 3, .boolean), (cy 4, .long), (cy 5, .object RX2)]
/-- what the surroundings (texts, nest words) give -/
def mSxOk (base b : Nat) (adK : Nat → Nat) (Sx : State → Prop) : Prop :=
  (∀ s, Sx s → va_AO RX2 s) ∧
  (∀ s, Sx s → ∀ o x mj, mLk gCall o x = some (mj, 1) → va_Nw (.methodLinkNest (gOwn.getD o "") x (gSpY mj) "HouseClaps") s) ∧
  (∀ s, Sx s → ∀ o x v, mLk gCon o x = some (.ref v) → vk_R (gOwn.getD o "") x (gStr.getD (v - 1000001) "") (mAd base b adK v) s) ∧
  (∀ (s U : State) (H : Heap) (locs : List Loc), Sx s → va_S (fun q => base ≤ q) s.heap H locs → base ≤ s.heap.size → U.heap = H → s.WarmedH U.vm → Sx U) ∧
  (∀ (U : State) (g : JFrame) (mk : MethodId) (a : Array Value), Sx U → Sx (U.calling g mk a))
/-- a frame of method mi, d calls deep at most -/
def mFr (dC : Nat → ClassId) (dI : Nat → Nat → Nat) (cy : Nat → ClassId) (base b : Nat) (S : Nat × (Nat → Int32)) (Sx : State → Prop) (d mi : Nat) (p : Program) (R : Room) (s : State) (m : MethodId) (args : Array Value) (meth : Method) (c : Code) : Prop :=
  p.tables.exec = Jvm.exec ∧ c.code = (gMe mi).2.1 ∧ c.maxLocals = (gMe mi).2.2.1 ∧ s.vm.findClass (gOwn.getD (gO mi) "") = some m.cls ∧ (∀ w ∈ lwG, w.before args s = true) ∧ va_K (dC, dI) gCl (mTys cy) s ∧ Sx s ∧ ((gMe mi).2.2.2.2.2.2 = 2 → meth.name = "<init>") ∧ (d ≤ R.frames ∧ 60 * d ≤ R.locals) ∧ base ≤ s.heap.size ∧ (mi = 0 → va_X b S.1 S.2 s s.heap ∧ b < s.heap.size ∧ b < base)
/-- where the frame stands: world w, locals Lo -/
def mSt (dC : Nat → ClassId) (dI : Nat → Nat → Nat) (cy : Nat → ClassId) (base b : Nat) (adK : Nat → Nat) (s : State) (mi : Nat) (Lo : mL) (w : mW) (H : Heap) (locs : List Loc) (cells : Nat) (ls : Array Slot) : Prop :=
  s.heap.size + cells = base + w.1.length ∧ w.1.length ≤ 1000000 ∧ va_P (dC, dI) gCl (mWs cy (mAd base b adK) w) H ∧ va_S (fun q => base ≤ q) s.heap H locs ∧ lv_has ls (gMe mi).2.2.1 (mLv (mAd base b adK) Lo) ∧ Lo.length = (gMe mi).2.2.1
section STEP
variable {l : Launch} {dC : Nat → ClassId} {dI : Nat → Nat → Nat} {cy : Nat → ClassId} {base b : Nat} {adK : Nat → Nat} {S : Nat × (Nat → Int32)} {Sx : State → Prop}
variable {p : Program} {e : Env} {R : Room} {s : State} {m : MethodId} {args : Array Value} {below : List Frame} {meth : Method} {c : Code} {H : Heap} {locs : List Loc} {cells slots : Nat} {Q : State → Prop} {d mi pc : Nat} {Lo Lo1 : mL} {ls : Array Slot} {st st1' : List Value} {w w1 : mW}
theorem mW_sz {g : JFrame} (k : H.size ≤ s.heap.size + cells → W p l e R s m args below meth c H locs cells slots Q g) : W p l e R s m args below meth c H locs cells slots Q g := by
  intro T hT X
  refine k ?_ T hT X
  have h := X.same.2.2.1
  rw [← hT]
  exact h
theorem mGood (F : mFr dC dI cy base b S Sx d mi p R s m args meth c) {w : Cond} (h : w ∈ lwG) : w.before args s = true := F.2.2.2.2.1 w h
theorem mSpec {o x mj nn : Nat} (hg : mLk gCall o x = some (mj, nn)) (hmj : 1000 ≤ mj) : Cond.methodLink (gOwn.getD o "") x (gSpY mj) ∈ lwG := by
  rcases (gC_ok hg).1 with ⟨-, h1⟩ | ⟨hn1, -⟩
  · exact h1
  · exfalso
    subst hn1
    have := gNest _ (mLk_mem hg) rfl
    dsimp only at this
    omega
theorem mK_cy (hK : va_K (dC, dI) gCl (mTys cy) s) {t : Nat} {cA : ClassId} {ty : FieldType} (ht : (mTys cy)[t]? = some (cy (t + 1), ty)) {tys : List (ClassId × FieldType)} (h : va_K (dC, dI) gCl (tys ++ [(cA, ty)]) s) : cA = cy (t + 1) := by
  have h1 := (hK.2 t _ ht).2
  have h2 := (h.2 tys.length (cA, ty) (by simp)).2
  unfold va_RA at h1 h2
  cases ty with
  | object C =>
    obtain ⟨_, _, _, _, _, a⟩ := h1
    obtain ⟨_, _, _, _, _, a2⟩ := h2
    exact Option.some.inj (a2.symm.trans a)
  | _ => exact Option.some.inj (h2.symm.trans h1)
/-- a new cell's address -/
theorem mPin {D : va_G} {cl : List vw_C} {q : Nat} {en : va_E} {H1 : Heap} (hl : w.1.length < 1000000) (hP : va_P D cl (mWs cy (mAd base b adK) w ++ [(q, en)]) H1) (hD : va_D (fun q => base ≤ q) (mWs cy (mAd base b adK) w ++ [(q, en)])) (hz : H1.size ≤ base + w.1.length + 1) : q = mAd base b adK w.1.length := by
  have hlen : (mWs cy (mAd base b adK) w).length = w.1.length := mWs_len
  have hq : (mWs cy (mAd base b adK) w ++ [(q, en)])[w.1.length]? = some (q, en) := by
    rw [List.getElem?_append_right (by rw [hlen]; exact Nat.le_refl _), hlen, Nat.sub_self]
    rfl
  have h1 := (hP _ _ hq).lt
  have h2 := hD.2 _ _ hq
  dsimp only at h1 h2
  rw [mAd_lt hl]
  rcases Nat.lt_or_ge q (base + w.1.length) with hlt | hge
  · exfalso
    have hi : q - base < w.1.length := by omega
    have hg : (mWs cy (mAd base b adK) w ++ [(q, en)])[q - base]? = some (mAd base b adK (q - base), mCell cy (mAd base b adK) w (q - base)) := by
      rw [List.getElem?_append_left (by rw [hlen]; exact hi), mWs_get hi]
    have := hD.1 _ _ _ _ hg hq (by dsimp only; rw [mAd_lt (by omega)]; omega)
    omega
  · omega

set_option maxHeartbeats 4000000 in
set_option maxRecDepth 100000 in
theorem mStep (hSx : mSxOk base b adK Sx) (hstr : mStrOk l base b adK Sx) {i : Instr} (hdg : decode (gMe mi).2.1 pc = .ok (i, mLen i)) (F : mFr dC dI cy base b S Sx d mi p R s m args meth c) (X : mSt dC dI cy base b adK s mi Lo w H locs cells ls) (h : st1 S d mi i Lo st w = some (Lo1, st1', w1)) (hc : cells + w1.1.length ≤ R.cells + w.1.length) (hz : slots + wZ w1 ≤ R.slots + wZ w)
    (kk : ∀ (H1 : Heap) (locs1 : List Loc) (ls1 : Array Slot) (cells1 slots1 : Nat), cells1 + w.1.length = cells + w1.1.length → slots1 + wZ w = slots + wZ w1 → mSt dC dI cy base b adK s mi Lo1 w1 H1 locs1 cells1 ls1 → W p l e R s m args below meth c H1 locs1 cells1 slots1 Q (F0 m (pc + mLen i) ls1 (st1'.map (mCv (mAd base b adK))))) :
    W p l e R s m args below meth c H locs cells slots Q (F0 m pc ls (st.map (mCv (mAd base b adK)))) := by
  obtain ⟨hx, hb, hml, hown, hts, hK, hS0, hin, ⟨hfr, hlo⟩, hbs, hscr⟩ := id F
  obtain ⟨hE, hN, hP, hS, hl, hLo⟩ := id X
  have hD := mD (cy := cy) (base := base) (b := b) (adK := adK) hN
  have hA : ∀ q : Nat, s.heap.size ≤ q → (fun q => base ≤ q) q := fun q h => Nat.le_trans hbs h
  cases i

  case iconst n =>
    cases h
    exact lv_iconst hx hb hdg rfl (kk H locs ls cells slots rfl rfl X)
  case bipush n =>
    cases h
    exact lv_bipush hx hb hdg rfl (kk H locs ls cells slots rfl rfl X)
  case sipush n =>
    cases h
    exact lv_sipush hx hb hdg rfl (kk H locs ls cells slots rfl rfl X)
  case lconst n =>
    cases h
    exact lv_lconst hx hb hdg rfl (kk H locs ls cells slots rfl rfl X)
  case iload k =>
    obtain ⟨x, hv, hq⟩ := mLdI_inv h
    cases hq
    exact lv_iload hx hb hdg (mLv_ld hl hv) (kk H locs ls cells slots rfl rfl X)
  case iload_n k =>
    obtain ⟨x, hv, hq⟩ := mLdI_inv h
    cases hq
    exact lv_iload_n hx hb hdg rfl (mLv_ld hl hv) (kk H locs ls cells slots rfl rfl X)
  case lload k =>
    obtain ⟨x, hv, hq⟩ := mLdL_inv h
    cases hq
    exact lv_lload hx hb hdg (mLv_ld hl hv) (kk H locs ls cells slots rfl rfl X)
  case lload_n k =>
    obtain ⟨x, hv, hq⟩ := mLdL_inv h
    cases hq
    exact lv_lload_n hx hb hdg rfl (mLv_ld hl hv) (kk H locs ls cells slots rfl rfl X)
  case aload k =>
    obtain ⟨x, hv, hq⟩ := mLdA_inv h
    cases hq
    exact lv_aload hx hb hdg (mLv_ld hl hv) (kk H locs ls cells slots rfl rfl X)
  case aload_n k =>
    obtain ⟨x, hv, hq⟩ := mLdA_inv h
    cases hq
    exact lv_aload_n hx hb hdg rfl (mLv_ld hl hv) (kk H locs ls cells slots rfl rfl X)
  case istore k =>
    obtain ⟨x, r, L, rfl, hL, hq⟩ := mStI_inv h
    cases hq
    refine lv_istore hx hb hdg hl (by rw [← hLo]; exact mSt1_lt hL) rfl (fun ls1 h1 => ?_)
    obtain ⟨h2, h3⟩ := mLv_st1 hL h1
    exact kk H locs ls1 cells slots rfl rfl ⟨hE, hN, hP, hS, h2, h3.trans hLo⟩
  case istore_n k =>
    obtain ⟨x, r, L, rfl, hL, hq⟩ := mStI_inv h
    cases hq
    refine lv_istore_n hx hb hdg rfl hl (by rw [← hLo]; exact mSt1_lt hL) rfl (fun ls1 h1 => ?_)
    obtain ⟨h2, h3⟩ := mLv_st1 hL h1
    exact kk H locs ls1 cells slots rfl rfl ⟨hE, hN, hP, hS, h2, h3.trans hLo⟩
  case lstore k =>
    obtain ⟨x, r, L, rfl, hL, hq⟩ := mStL_inv h
    cases hq
    refine lv_lstore hx hb hdg hl (by rw [← hLo]; exact mSt2_lt hL) rfl (fun ls1 h1 => ?_)
    obtain ⟨h2, h3⟩ := mLv_st2 hL h1
    exact kk H locs ls1 cells slots rfl rfl ⟨hE, hN, hP, hS, h2, h3.trans hLo⟩
  case lstore_n k =>
    obtain ⟨x, r, L, rfl, hL, hq⟩ := mStL_inv h
    cases hq
    refine lv_lstore_n hx hb hdg rfl hl (by rw [← hLo]; exact mSt2_lt hL) rfl (fun ls1 h1 => ?_)
    obtain ⟨h2, h3⟩ := mLv_st2 hL h1
    exact kk H locs ls1 cells slots rfl rfl ⟨hE, hN, hP, hS, h2, h3.trans hLo⟩
  case astore k =>
    obtain ⟨x, r, L, rfl, hL, hq⟩ := mStA_inv h
    cases hq
    refine lv_astore hx hb hdg hl (by rw [← hLo]; exact mSt1_lt hL) rfl (fun ls1 h1 => ?_)
    obtain ⟨h2, h3⟩ := mLv_st1 hL h1
    exact kk H locs ls1 cells slots rfl rfl ⟨hE, hN, hP, hS, h2, h3.trans hLo⟩
  case astore_n k =>
    obtain ⟨x, r, L, rfl, hL, hq⟩ := mStA_inv h
    cases hq
    refine lv_astore_n hx hb hdg rfl hl (by rw [← hLo]; exact mSt1_lt hL) rfl (fun ls1 h1 => ?_)
    obtain ⟨h2, h3⟩ := mLv_st1 hL h1
    exact kk H locs ls1 cells slots rfl rfl ⟨hE, hN, hP, hS, h2, h3.trans hLo⟩
  case iinc k n =>
    obtain ⟨x, L, hv, hL, hq⟩ := mInc_inv h
    cases hq
    obtain ⟨z, hz1⟩ := List.getElem?_of_mem (mLv_mem (ad := mAd base b adK).mpr ⟨_, hv, rfl⟩ : (k, mCv (mAd base b adK) (.int x)) ∈ mLv (mAd base b adK) Lo)
    refine lv_iinc hx hb hdg hl hz1 rfl (by rw [← hLo]; exact mSt1_lt hL) rfl (fun ls1 h1 => ?_)
    obtain ⟨h2, h3⟩ := mLv_st1 hL h1
    exact kk H locs ls1 cells slots rfl rfl ⟨hE, hN, hP, hS, h2, h3.trans hLo⟩
  case iadd =>
    rcases mDef_inv (i := .iadd) h with ⟨x, y, r, v, rfl, hv, hq⟩ | ⟨x, y, r, v, rfl, hv, hq⟩ | ⟨x, y, r, v, rfl, hv, hq⟩
    · have hv : some (x + y) = some v := hv
      cases hv
      cases hq
      exact lv_iadd hx hb hdg (kk H locs ls cells slots rfl rfl X)
    · have hv : (none : Option Int64) = some v := hv
      cases hv
    · have hv : (none : Option Int64) = some v := hv
      cases hv
  case isub =>
    rcases mDef_inv (i := .isub) h with ⟨x, y, r, v, rfl, hv, hq⟩ | ⟨x, y, r, v, rfl, hv, hq⟩ | ⟨x, y, r, v, rfl, hv, hq⟩
    · have hv : some (x - y) = some v := hv
      cases hv
      cases hq
      exact lv_isub hx hb hdg (kk H locs ls cells slots rfl rfl X)
    · have hv : (none : Option Int64) = some v := hv
      cases hv
    · have hv : (none : Option Int64) = some v := hv
      cases hv
  case imul =>
    rcases mDef_inv (i := .imul) h with ⟨x, y, r, v, rfl, hv, hq⟩ | ⟨x, y, r, v, rfl, hv, hq⟩ | ⟨x, y, r, v, rfl, hv, hq⟩
    · have hv : some (x * y) = some v := hv
      cases hv
      cases hq
      exact lv_imul hx hb hdg (kk H locs ls cells slots rfl rfl X)
    · have hv : (none : Option Int64) = some v := hv
      cases hv
    · have hv : (none : Option Int64) = some v := hv
      cases hv
  case iand =>
    rcases mDef_inv (i := .iand) h with ⟨x, y, r, v, rfl, hv, hq⟩ | ⟨x, y, r, v, rfl, hv, hq⟩ | ⟨x, y, r, v, rfl, hv, hq⟩
    · have hv : some (x &&& y) = some v := hv
      cases hv
      cases hq
      exact lv_iand hx hb hdg (kk H locs ls cells slots rfl rfl X)
    · have hv : (none : Option Int64) = some v := hv
      cases hv
    · have hv : (none : Option Int64) = some v := hv
      cases hv
  case ior =>
    rcases mDef_inv (i := .ior) h with ⟨x, y, r, v, rfl, hv, hq⟩ | ⟨x, y, r, v, rfl, hv, hq⟩ | ⟨x, y, r, v, rfl, hv, hq⟩
    · have hv : some (x ||| y) = some v := hv
      cases hv
      cases hq
      exact lv_ior hx hb hdg (kk H locs ls cells slots rfl rfl X)
    · have hv : (none : Option Int64) = some v := hv
      cases hv
    · have hv : (none : Option Int64) = some v := hv
      cases hv
  case ixor =>
    rcases mDef_inv (i := .ixor) h with ⟨x, y, r, v, rfl, hv, hq⟩ | ⟨x, y, r, v, rfl, hv, hq⟩ | ⟨x, y, r, v, rfl, hv, hq⟩
    · have hv : some (x ^^^ y) = some v := hv
      cases hv
      cases hq
      exact lv_ixor hx hb hdg (kk H locs ls cells slots rfl rfl X)
    · have hv : (none : Option Int64) = some v := hv
      cases hv
    · have hv : (none : Option Int64) = some v := hv
      cases hv
  case ishl =>
    rcases mDef_inv (i := .ishl) h with ⟨x, y, r, v, rfl, hv, hq⟩ | ⟨x, y, r, v, rfl, hv, hq⟩ | ⟨x, y, r, v, rfl, hv, hq⟩
    · have hv : some (x <<< (y &&& 31)) = some v := hv
      cases hv
      cases hq
      exact lv_ishl hx hb hdg (kk H locs ls cells slots rfl rfl X)
    · have hv : (none : Option Int64) = some v := hv
      cases hv
    · have hv : (none : Option Int64) = some v := hv
      cases hv
  case ishr =>
    rcases mDef_inv (i := .ishr) h with ⟨x, y, r, v, rfl, hv, hq⟩ | ⟨x, y, r, v, rfl, hv, hq⟩ | ⟨x, y, r, v, rfl, hv, hq⟩
    · have hv : some (x >>> (y &&& 31)) = some v := hv
      cases hv
      cases hq
      exact lv_ishr hx hb hdg (kk H locs ls cells slots rfl rfl X)
    · have hv : (none : Option Int64) = some v := hv
      cases hv
    · have hv : (none : Option Int64) = some v := hv
      cases hv
  case iushr =>
    rcases mDef_inv (i := .iushr) h with ⟨x, y, r, v, rfl, hv, hq⟩ | ⟨x, y, r, v, rfl, hv, hq⟩ | ⟨x, y, r, v, rfl, hv, hq⟩
    · have hv : some ((x.toUInt32 >>> (y.toUInt32 &&& Int32.toUInt32 31)).toInt32) = some v := hv
      cases hv
      cases hq
      exact lv_iushr hx hb hdg rfl (kk H locs ls cells slots rfl rfl X)
    · have hv : (none : Option Int64) = some v := hv
      cases hv
    · have hv : (none : Option Int64) = some v := hv
      cases hv
  case idiv =>
    rcases mDef_inv (i := .idiv) h with ⟨x, y, r, v, rfl, hv, hq⟩ | ⟨x, y, r, v, rfl, hv, hq⟩ | ⟨x, y, r, v, rfl, hv, hq⟩
    · have hv : (if y = 0 then none else some (x / y)) = some v := hv
      split at hv
      · cases hv
      · rename_i hy
        cases hv
        cases hq
        exact lv_idiv hx hb hdg hy (kk H locs ls cells slots rfl rfl X)
    · have hv : (none : Option Int64) = some v := hv
      cases hv
    · have hv : (none : Option Int64) = some v := hv
      cases hv
  case irem =>
    rcases mDef_inv (i := .irem) h with ⟨x, y, r, v, rfl, hv, hq⟩ | ⟨x, y, r, v, rfl, hv, hq⟩ | ⟨x, y, r, v, rfl, hv, hq⟩
    · have hv : (if y = 0 then none else some (x - x / y * y)) = some v := hv
      split at hv
      · cases hv
      · rename_i hy
        cases hv
        cases hq
        exact lv_irem hx hb hdg hy (kk H locs ls cells slots rfl rfl X)
    · have hv : (none : Option Int64) = some v := hv
      cases hv
    · have hv : (none : Option Int64) = some v := hv
      cases hv
  case ladd =>
    rcases mDef_inv (i := .ladd) h with ⟨x, y, r, v, rfl, hv, hq⟩ | ⟨x, y, r, v, rfl, hv, hq⟩ | ⟨x, y, r, v, rfl, hv, hq⟩
    · have hv : (none : Option Int32) = some v := hv
      cases hv
    · have hv : some (x + y) = some v := hv
      cases hv
      cases hq
      exact lv_ladd hx hb hdg (kk H locs ls cells slots rfl rfl X)
    · have hv : (none : Option Int64) = some v := hv
      cases hv
  case lsub =>
    rcases mDef_inv (i := .lsub) h with ⟨x, y, r, v, rfl, hv, hq⟩ | ⟨x, y, r, v, rfl, hv, hq⟩ | ⟨x, y, r, v, rfl, hv, hq⟩
    · have hv : (none : Option Int32) = some v := hv
      cases hv
    · have hv : some (x - y) = some v := hv
      cases hv
      cases hq
      exact lv_lsub hx hb hdg (kk H locs ls cells slots rfl rfl X)
    · have hv : (none : Option Int64) = some v := hv
      cases hv
  case lmul =>
    rcases mDef_inv (i := .lmul) h with ⟨x, y, r, v, rfl, hv, hq⟩ | ⟨x, y, r, v, rfl, hv, hq⟩ | ⟨x, y, r, v, rfl, hv, hq⟩
    · have hv : (none : Option Int32) = some v := hv
      cases hv
    · have hv : some (x * y) = some v := hv
      cases hv
      cases hq
      exact lv_lmul hx hb hdg (kk H locs ls cells slots rfl rfl X)
    · have hv : (none : Option Int64) = some v := hv
      cases hv
  case land =>
    rcases mDef_inv (i := .land) h with ⟨x, y, r, v, rfl, hv, hq⟩ | ⟨x, y, r, v, rfl, hv, hq⟩ | ⟨x, y, r, v, rfl, hv, hq⟩
    · have hv : (none : Option Int32) = some v := hv
      cases hv
    · have hv : some (x &&& y) = some v := hv
      cases hv
      cases hq
      exact lv_land hx hb hdg (kk H locs ls cells slots rfl rfl X)
    · have hv : (none : Option Int64) = some v := hv
      cases hv
  case lor =>
    rcases mDef_inv (i := .lor) h with ⟨x, y, r, v, rfl, hv, hq⟩ | ⟨x, y, r, v, rfl, hv, hq⟩ | ⟨x, y, r, v, rfl, hv, hq⟩
    · have hv : (none : Option Int32) = some v := hv
      cases hv
    · have hv : some (x ||| y) = some v := hv
      cases hv
      cases hq
      exact lv_lor hx hb hdg (kk H locs ls cells slots rfl rfl X)
    · have hv : (none : Option Int64) = some v := hv
      cases hv
  case lxor =>
    rcases mDef_inv (i := .lxor) h with ⟨x, y, r, v, rfl, hv, hq⟩ | ⟨x, y, r, v, rfl, hv, hq⟩ | ⟨x, y, r, v, rfl, hv, hq⟩
    · have hv : (none : Option Int32) = some v := hv
      cases hv
    · have hv : some (x ^^^ y) = some v := hv
      cases hv
      cases hq
      exact lv_lxor hx hb hdg (kk H locs ls cells slots rfl rfl X)
    · have hv : (none : Option Int64) = some v := hv
      cases hv
  case ldiv =>
    rcases mDef_inv (i := .ldiv) h with ⟨x, y, r, v, rfl, hv, hq⟩ | ⟨x, y, r, v, rfl, hv, hq⟩ | ⟨x, y, r, v, rfl, hv, hq⟩
    · have hv : (none : Option Int32) = some v := hv
      cases hv
    · have hv : (if y = 0 then none else some (x / y)) = some v := hv
      split at hv
      · cases hv
      · rename_i hy
        cases hv
        cases hq
        exact lv_ldiv hx hb hdg hy (kk H locs ls cells slots rfl rfl X)
    · have hv : (none : Option Int64) = some v := hv
      cases hv
  case lrem =>
    rcases mDef_inv (i := .lrem) h with ⟨x, y, r, v, rfl, hv, hq⟩ | ⟨x, y, r, v, rfl, hv, hq⟩ | ⟨x, y, r, v, rfl, hv, hq⟩
    · have hv : (none : Option Int32) = some v := hv
      cases hv
    · have hv : (if y = 0 then none else some (x - x / y * y)) = some v := hv
      split at hv
      · cases hv
      · rename_i hy
        cases hv
        cases hq
        exact lv_lrem hx hb hdg hy (kk H locs ls cells slots rfl rfl X)
    · have hv : (none : Option Int64) = some v := hv
      cases hv
  case lshl =>
    rcases mDef_inv (i := .lshl) h with ⟨x, y, r, v, rfl, hv, hq⟩ | ⟨x, y, r, v, rfl, hv, hq⟩ | ⟨x, y, r, v, rfl, hv, hq⟩
    · have hv : (none : Option Int32) = some v := hv
      cases hv
    · have hv : (none : Option Int64) = some v := hv
      cases hv
    · have hv : some (x <<< (y.toInt64 &&& 63)) = some v := hv
      cases hv
      cases hq
      exact lv_lshl hx hb hdg rfl (kk H locs ls cells slots rfl rfl X)
  case lshr =>
    rcases mDef_inv (i := .lshr) h with ⟨x, y, r, v, rfl, hv, hq⟩ | ⟨x, y, r, v, rfl, hv, hq⟩ | ⟨x, y, r, v, rfl, hv, hq⟩
    · have hv : (none : Option Int32) = some v := hv
      cases hv
    · have hv : (none : Option Int64) = some v := hv
      cases hv
    · have hv : some (x >>> (y.toInt64 &&& 63)) = some v := hv
      cases hv
      cases hq
      exact lv_lshr hx hb hdg rfl (kk H locs ls cells slots rfl rfl X)
  case lushr =>
    rcases mDef_inv (i := .lushr) h with ⟨x, y, r, v, rfl, hv, hq⟩ | ⟨x, y, r, v, rfl, hv, hq⟩ | ⟨x, y, r, v, rfl, hv, hq⟩
    · have hv : (none : Option Int32) = some v := hv
      cases hv
    · have hv : (none : Option Int64) = some v := hv
      cases hv
    · have hv : some ((x.toUInt64 >>> (y.toInt64.toUInt64 &&& Int64.toUInt64 63)).toInt64) = some v := hv
      cases hv
      cases hq
      exact lv_lushr hx hb hdg rfl (kk H locs ls cells slots rfl rfl X)
  case ineg =>
    obtain ⟨x, r, rfl, hq⟩ := mUnI_inv h
    cases hq
    exact lv_ineg hx hb hdg (kk H locs ls cells slots rfl rfl X)
  case lneg =>
    obtain ⟨x, r, rfl, hq⟩ := mUnL_inv h
    cases hq
    exact lv_lneg hx hb hdg (kk H locs ls cells slots rfl rfl X)
  case i2l =>
    obtain ⟨x, r, rfl, hq⟩ := mUnI_inv h
    cases hq
    exact lv_i2l hx hb hdg rfl (kk H locs ls cells slots rfl rfl X)
  case i2b =>
    obtain ⟨x, r, rfl, hq⟩ := mUnI_inv h
    cases hq
    exact lv_i2b hx hb hdg rfl (kk H locs ls cells slots rfl rfl X)
  case l2i =>
    obtain ⟨x, r, rfl, hq⟩ := mUnL_inv h
    cases hq
    exact lv_l2i hx hb hdg rfl (kk H locs ls cells slots rfl rfl X)
  case lcmp =>
    obtain ⟨x, y, r, rfl, hq⟩ := mCmp_inv h
    cases hq
    exact W.lcmp hx hb hdg (kk H locs ls cells slots rfl rfl X)
  case dup =>
    obtain ⟨v, r, rfl, hv, hq⟩ := mDup_inv h
    cases hq
    exact lv_dup hx hb hdg (by rw [mCv_cat]; exact hv) (kk H locs ls cells slots rfl rfl X)
  case pop =>
    obtain ⟨v, r, rfl, hv, hq⟩ := mPp_inv h
    cases hq
    exact lv_pop hx hb hdg (by rw [mCv_cat]; exact hv) (kk H locs ls cells slots rfl rfl X)
  case dup2 =>
    obtain ⟨x, y, r, rfl, hq⟩ := mDup2_inv h
    cases hq
    exact lv_dup2_11 hx hb hdg rfl rfl (kk H locs ls cells slots rfl rfl X)
  case ldc k =>
    rcases mLdc_inv h with ⟨v, hv, hq⟩ | ⟨v, hv, hq⟩
    · cases hq
      exact lv_ldc hx hb hown (hts _ (gK_int hv)) hdg (kk H locs ls cells slots rfl rfl X)
    · cases hq
      exact va_ldcS hx hb hown (hSx.2.2.1 s hS0 _ _ _ hv) hdg (kk H locs ls cells slots rfl rfl X)
  case ldc_w k =>
    obtain ⟨v, hv, hq⟩ := mLdcW_inv h
    cases hq
    exact lv_ldcw hx hb hown (hts _ (gK_int hv)) hdg (kk H locs ls cells slots rfl rfl X)
  case ldc2_w k =>
    obtain ⟨v, hv, hq⟩ := mLdc2_inv h
    cases hq
    exact lv_ldc2 hx hb hown (hts _ (gK_long hv)) hdg (kk H locs ls cells slots rfl rfl X)
  case getfield k =>
    obtain ⟨a, r, ci, j, rfl, h1, h2, hq⟩ := mGet_inv h
    cases hq
    obtain ⟨f1, f2, f3⟩ := gF_ok h1
    obtain ⟨c1, c2, c3, c4, c5, c6, c7, c8, c9, c10⟩ := gOkAll ci f3
    exact va_get (D := (dC, dI)) (ci := ci) (C := (gc ci).1) (T := (gc ci).2.1) (N := (gc ci).2.2) hx hb hts (gWsG f3) hown hK hP a (by rw [mWs_get (mSh h2).1, mCell_o h2]) c10 j f2 (hts _ f1) (fun _ h9 => h9) (mFs_get (by rw [c4]; exact f2)) hdg (kk H locs ls cells slots rfl rfl X)
  case putfield k =>
    obtain ⟨v, a, r, ci, j, w9, rfl, h1, h2, hq, hv⟩ := mPut_inv h
    cases hq
    obtain ⟨f1, f2, f3⟩ := gF_ok h1
    obtain ⟨c1, c2, c3, c4, c5, c6, c7, c8, c9, c10⟩ := gOkAll ci f3
    have hj : j < (gFt.getD ci []).length := by rw [c4]; exact f2
    have ha := (mSh h2).1
    have he : (mWs cy (mAd base b adK) w)[a]? = some (mAd base b adK a, .inr (ci, mFs (mAd base b adK) w a ci)) := by rw [mWs_get ha, mCell_o h2]
    have hfl : j < (mFs (mAd base b adK) w a ci).length := by unfold mFs; simpa using hj
    rcases hv with ⟨z, rfl, hf, hk, rfl⟩ | ⟨z, rfl, hf, hk, rfl⟩ | ⟨z, rfl, hf, hk, hi, ho, rfl⟩
    · have hty : narrow (gTy ci j) (.int z) = .int z ∧ fits (gTy ci j) (.int z) = true := by
        rcases c6 j f2 with ⟨q, t⟩ | ⟨q, t⟩ | ⟨q, t⟩ | ⟨q, t⟩
        · rw [t]; exact ⟨rfl, rfl⟩
        · rcases hk with hk | hk
          · exact absurd (hk.symm.trans q) (by decide)
          · exact absurd (hk.1.symm.trans q) (by decide)
        · rw [t]
          rcases hk with hk | ⟨-, rfl | rfl⟩
          · exact absurd (hk.symm.trans q) (by decide)
          · exact ⟨rfl, rfl⟩
          · exact ⟨rfl, rfl⟩
        · rcases hk with hk | hk
          · exact absurd (hk.symm.trans q) (by decide)
          · exact absurd (hk.1.symm.trans q) (by decide)
      have hw : (mWs cy (mAd base b adK) w).set a (mAd base b adK a, .inr (ci, (mFs (mAd base b adK) w a ci).set j (.int z))) = mWs cy (mAd base b adK) (wsI w (mSet (wI w) a j z)) := by
        refine mWs_set rfl ha ?_ (fun q hq => mCell_eq rfl (mSet_o hq) rfl rfl)
        rw [mCell_o (w := wsI w (mSet (wI w) a j z)) h2, mFs_set (w := w) hj (v := .int z)]
        · have hv9 : mFld (wsI w (mSet (wI w) a j z)) a j (gKi ci j) = .int z := by
            rcases hk with hk | hk
            · rw [hk]
              show Value.int (mSet (wI w) a j z a j) = _
              rw [mSet_s, mUp_s]
            · rw [hk.1]
              show Value.int (mSet (wI w) a j z a j) = _
              rw [mSet_s, mUp_s]
          rw [hv9]; rfl
        · intro q hq
          unfold mFld
          split
          · rfl
          · rfl
          · show Value.int (mSet (wI w) a j z a q) = _
            rw [mSet_s, mUp_o hq]
      refine va_put (D := (dC, dI)) (ci := ci) (C := (gc ci).1) (T := (gc ci).2.1) (N := (gc ci).2.2) (ty := gTy ci j) hx hb hts (gWsG f3) (gTy ci) c2 c3 hown hK hP hD hS a he c10 j f2 (hts _ f1) (fun _ h9 => h9) ((c5 j f2).1.trans hf) (c2 j f2) hty.1 hty.2 hfl hdg (fun H1 locs1 hP1 hD1 hS1 => ?_)
      exact kk H1 locs1 ls cells slots rfl rfl ⟨hE, hN, (congrArg (fun q => va_P (dC, dI) gCl q H1) hw).mp hP1, hS1, hl, hLo⟩
    · have hty : narrow (gTy ci j) (.long z) = .long z ∧ fits (gTy ci j) (.long z) = true := by
        rcases c6 j f2 with ⟨q, t⟩ | ⟨q, t⟩ | ⟨q, t⟩ | ⟨q, t⟩
        · exact absurd (hk.symm.trans q) (by decide)
        · rw [t]; exact ⟨rfl, rfl⟩
        · exact absurd (hk.symm.trans q) (by decide)
        · exact absurd (hk.symm.trans q) (by decide)
      have hw : (mWs cy (mAd base b adK) w).set a (mAd base b adK a, .inr (ci, (mFs (mAd base b adK) w a ci).set j (.long z))) = mWs cy (mAd base b adK) (wsJ w (mSet (wJ w) a j z)) := by
        refine mWs_set rfl ha ?_ (fun q hq => mCell_eq rfl rfl (mSet_o hq) rfl)
        rw [mCell_o (w := wsJ w (mSet (wJ w) a j z)) h2, mFs_set (w := w) hj (v := .long z)]
        · have hv9 : mFld (wsJ w (mSet (wJ w) a j z)) a j (gKi ci j) = .long z := by
            rw [hk]
            show Value.long (mSet (wJ w) a j z a j) = _
            rw [mSet_s, mUp_s]
          rw [hv9]; rfl
        · intro q hq
          unfold mFld
          split
          · show Value.long (mSet (wJ w) a j z a q) = _
            rw [mSet_s, mUp_o hq]
          · rfl
          · rfl
      refine va_put (D := (dC, dI)) (ci := ci) (C := (gc ci).1) (T := (gc ci).2.1) (N := (gc ci).2.2) (ty := gTy ci j) hx hb hts (gWsG f3) (gTy ci) c2 c3 hown hK hP hD hS a he c10 j f2 (hts _ f1) (fun _ h9 => h9) ((c5 j f2).1.trans hf) (c2 j f2) hty.1 hty.2 hfl hdg (fun H1 locs1 hP1 hD1 hS1 => ?_)
      exact kk H1 locs1 ls cells slots rfl rfl ⟨hE, hN, (congrArg (fun q => va_P (dC, dI) gCl q H1) hw).mp hP1, hS1, hl, hLo⟩
    · have hty : narrow (gTy ci j) (.ref (mAd base b adK z)) = .ref (mAd base b adK z) ∧ fits (gTy ci j) (.ref (mAd base b adK z)) = true := by
        rcases c6 j f2 with ⟨q, t⟩ | ⟨q, t⟩ | ⟨q, t⟩ | ⟨q, t⟩
        · exact absurd (hk.symm.trans q) (by decide)
        · exact absurd (hk.symm.trans q) (by decide)
        · exact absurd (hk.symm.trans q) (by decide)
        · rcases t with ⟨t, e9⟩ | ⟨t, e9⟩
          · rw [e9]; exact ⟨rfl, rfl⟩
          · rw [e9]; exact ⟨rfl, rfl⟩
      have hw : (mWs cy (mAd base b adK) w).set a (mAd base b adK a, .inr (ci, (mFs (mAd base b adK) w a ci).set j (.ref (mAd base b adK z)))) = mWs cy (mAd base b adK) (wsR w (mSet (wR w) a j (some z))) := by
        refine mWs_set rfl ha ?_ (fun q hq => mCell_eq rfl rfl rfl (mSet_o hq))
        rw [mCell_o (w := wsR w (mSet (wR w) a j (some z))) h2, mFs_set (w := w) hj (v := .ref (mAd base b adK z))]
        · have hv9 : mFld (wsR w (mSet (wR w) a j (some z))) a j (gKi ci j) = .ref z := by
            rw [hk]
            show mRf (mSet (wR w) a j (some z) a j) = _
            rw [mSet_s, mUp_s]
            rfl
          rw [hv9]; rfl
        · intro q hq
          unfold mFld
          split
          · rfl
          · show mRf (mSet (wR w) a j (some z) a q) = _
            rw [mSet_s, mUp_o hq]
          · rfl
      refine va_putF (D := (dC, dI)) (ci := ci) (C := (gc ci).1) (T := (gc ci).2.1) (N := (gc ci).2.2) (ty := gTy ci j) hx hb hts (gWsG f3) (gTy ci) c2 c3 hown hK hP hD hS a he c10 j f2 (hts _ f1) (fun _ h9 => h9) ((c5 j f2).1.trans hf) (hin hi) (by rw [ho, gOwnC ci f3]; exact c7 j f2) (c2 j f2) hty.1 hty.2 hfl hdg (fun H1 locs1 hP1 hD1 hS1 => ?_)
      exact kk H1 locs1 ls cells slots rfl rfl ⟨hE, hN, (congrArg (fun q => va_P (dC, dI) gCl q H1) hw).mp hP1, hS1, hl, hLo⟩
  case iaload =>
    obtain ⟨j, a, r, rfl, hv⟩ := mIal_inv h
    rcases hv with ⟨rfl, hm, ho, hq⟩ | ⟨n, hn, ho, hq⟩
    · cases hq
      obtain ⟨x1, x2, x3⟩ := hscr hm
      exact va_sld hx hb x1 x2 (Nat.not_le.mpr x3) hS ho hdg (kk H locs ls cells slots rfl rfl X)
    · cases hq
      exact va_iald hx hb hK hP a 0 (by rw [mWs_get (mSh hn).1, mCell_1 hn]) rfl ho hdg (kk H locs ls cells slots rfl rfl X)
  case baload =>
    obtain ⟨j, a, r, n, rfl, hn, ho, hq⟩ := mBal_inv h
    cases hq
    rcases hn with hn | hn
    · exact va_bald hx hb hK hP a 1 (by rw [mWs_get (mSh hn).1, mCell_2 hn]) rfl ho hdg (kk H locs ls cells slots rfl rfl X)
    · exact va_zald hx hb hK hP a 2 (by rw [mWs_get (mSh hn).1, mCell_3 hn]) rfl ho hdg (kk H locs ls cells slots rfl rfl X)
  case laload =>
    obtain ⟨j, a, r, n, rfl, hn, ho, hq⟩ := mLal_inv h
    cases hq
    exact va_lald hx hb hK hP a 3 (by rw [mWs_get (mSh hn).1, mCell_4 hn]) rfl ho hdg (kk H locs ls cells slots rfl rfl X)
  case aaload =>
    obtain ⟨j, a, r, n, rfl, hn, ho, hq⟩ := mAal_inv h
    cases hq
    refine va_aldq hx hb hK hP a 4 (by rw [mWs_get (mSh hn).1, mCell_5 hn]) rfl ho hdg ?_
    have k9 := kk H locs ls cells slots rfl rfl X
    rw [List.map_cons, mCv_rf] at k9
    exact k9
  case iastore =>
    obtain ⟨v, j, a, r, n, rfl, hn, ho, hq⟩ := mIas_inv h
    cases hq
    have hw : (mWs cy (mAd base b adK) w).set a (mAd base b adK a, .inl (cy 1, n, .inl (upd (wI w a) j.toNatClampNeg v))) = mWs cy (mAd base b adK) (wsI w (mSet (wI w) a j.toNatClampNeg v)) := by
      refine mWs_set rfl (mSh hn).1 ?_ (fun q hq => mCell_eq rfl (mSet_o hq) rfl rfl)
      rw [mCell_1 (w := wsI w (mSet (wI w) a j.toNatClampNeg v)) hn]
      show Sum.inl (cy 1, n, Sum.inl (mSet (wI w) a j.toNatClampNeg v a)) = _
      rw [mSet_s]
      rfl
    refine va_iast hx hb hK hP hD hS a 0 (by rw [mWs_get (mSh hn).1, mCell_1 hn]) rfl ho hdg (fun H1 locs1 hP1 hD1 hS1 => ?_)
    exact kk H1 locs1 ls cells slots rfl rfl ⟨hE, hN, (congrArg (fun q => va_P (dC, dI) gCl q H1) hw).mp hP1, hS1, hl, hLo⟩
  case bastore =>
    obtain ⟨v, j, a, r, n, rfl, ho, hv⟩ := mBas_inv h
    rcases hv with ⟨hn, hq⟩ | ⟨hn, hq⟩
    · cases hq
      have hw : (mWs cy (mAd base b adK) w).set a (mAd base b adK a, .inl (cy 2, n, .inl (upd (wI w a) j.toNatClampNeg (vp_nar .byte v)))) = mWs cy (mAd base b adK) (wsI w (mSet (wI w) a j.toNatClampNeg (vp_nar .byte v))) := by
        refine mWs_set rfl (mSh hn).1 ?_ (fun q hq => mCell_eq rfl (mSet_o hq) rfl rfl)
        rw [mCell_2 (w := wsI w (mSet (wI w) a j.toNatClampNeg (vp_nar .byte v))) hn]
        show Sum.inl (cy 2, n, Sum.inl (mSet (wI w) a j.toNatClampNeg (vp_nar .byte v) a)) = _
        rw [mSet_s]
        rfl
      refine va_bast hx hb hK hP hD hS a 1 (by rw [mWs_get (mSh hn).1, mCell_2 hn]) rfl ho hdg (fun H1 locs1 hP1 hD1 hS1 => ?_)
      exact kk H1 locs1 ls cells slots rfl rfl ⟨hE, hN, (congrArg (fun q => va_P (dC, dI) gCl q H1) hw).mp hP1, hS1, hl, hLo⟩
    · cases hq
      have hw : (mWs cy (mAd base b adK) w).set a (mAd base b adK a, .inl (cy 3, n, .inl (upd (wI w a) j.toNatClampNeg (vp_nar .boolean v)))) = mWs cy (mAd base b adK) (wsI w (mSet (wI w) a j.toNatClampNeg (vp_nar .boolean v))) := by
        refine mWs_set rfl (mSh hn).1 ?_ (fun q hq => mCell_eq rfl (mSet_o hq) rfl rfl)
        rw [mCell_3 (w := wsI w (mSet (wI w) a j.toNatClampNeg (vp_nar .boolean v))) hn]
        show Sum.inl (cy 3, n, Sum.inl (mSet (wI w) a j.toNatClampNeg (vp_nar .boolean v) a)) = _
        rw [mSet_s]
        rfl
      refine va_zast hx hb hK hP hD hS a 2 (by rw [mWs_get (mSh hn).1, mCell_3 hn]) rfl ho hdg (fun H1 locs1 hP1 hD1 hS1 => ?_)
      exact kk H1 locs1 ls cells slots rfl rfl ⟨hE, hN, (congrArg (fun q => va_P (dC, dI) gCl q H1) hw).mp hP1, hS1, hl, hLo⟩
  case lastore =>
    obtain ⟨v, j, a, r, n, rfl, hn, ho, hq⟩ := mLas_inv h
    cases hq
    have hw : (mWs cy (mAd base b adK) w).set a (mAd base b adK a, .inl (cy 4, n, .inr (.inl (vp_updL (wJ w a) j.toNatClampNeg v)))) = mWs cy (mAd base b adK) (wsJ w (mSet (wJ w) a j.toNatClampNeg v)) := by
      refine mWs_set rfl (mSh hn).1 ?_ (fun q hq => mCell_eq rfl rfl (mSet_o hq) rfl)
      rw [mCell_4 (w := wsJ w (mSet (wJ w) a j.toNatClampNeg v)) hn]
      show Sum.inl (cy 4, n, Sum.inr (Sum.inl (mSet (wJ w) a j.toNatClampNeg v a))) = _
      rw [mSet_s]
      rfl
    refine va_last hx hb hK hP hD hS a 3 (by rw [mWs_get (mSh hn).1, mCell_4 hn]) rfl ho hdg (fun H1 locs1 hP1 hD1 hS1 => ?_)
    exact kk H1 locs1 ls cells slots rfl rfl ⟨hE, hN, (congrArg (fun q => va_P (dC, dI) gCl q H1) hw).mp hP1, hS1, hl, hLo⟩
  case aastore =>
    obtain ⟨v, j, a, r, n, rfl, hn, ho, hv, hq⟩ := mAas_inv h
    cases hq
    have hw : (mWs cy (mAd base b adK) w).set a (mAd base b adK a, .inl (cy 5, n, .inr (.inr (.inr (.inr (va_up (fun k => (wR w a k).map (mAd base b adK)) j.toNatClampNeg (some (mAd base b adK v)))))))) = mWs cy (mAd base b adK) (wsR w (mSet (wR w) a j.toNatClampNeg (some v))) := by
      refine mWs_set rfl (mSh hn).1 ?_ (fun q hq => mCell_eq rfl rfl rfl (mSet_o hq))
      rw [mCell_5 (w := wsR w (mSet (wR w) a j.toNatClampNeg (some v))) hn]
      show Sum.inl (cy 5, n, Sum.inr (Sum.inr (Sum.inr (Sum.inr (fun k => (mSet (wR w) a j.toNatClampNeg (some v) a k).map (mAd base b adK)))))) = _
      have hf : (fun k => (mSet (wR w) a j.toNatClampNeg (some v) a k).map (mAd base b adK)) = va_up (fun k => (wR w a k).map (mAd base b adK)) j.toNatClampNeg (some (mAd base b adK v)) := by
        funext k
        rw [mSet_s]
        by_cases hk : k = j.toNatClampNeg
        · subst hk
          rw [mUp_s, mUp_s]
          rfl
        · rw [mUp_o hk, mUp_o hk]
      rw [hf]
    refine va_astq (r := gc 2) hx hb hK hP hD hS a 4 v 2 (by rw [mWs_get (mSh hn).1, mCell_5 hn]) rfl (by rw [mWs_get (mSh hv).1, mCell_o hv]) rfl ho hdg (fun H1 locs1 hP1 hD1 hS1 => ?_)
    exact kk H1 locs1 ls cells slots rfl rfl ⟨hE, hN, (congrArg (fun q => va_P (dC, dI) gCl q H1) hw).mp hP1, hS1, hl, hLo⟩
  case arraylength =>
    obtain ⟨a, r, rfl, hv⟩ := mAln_inv h
    rcases hv with ⟨rfl, hm, hq⟩ | ⟨n, hn, hq⟩
    · cases hq
      obtain ⟨x1, x2, x3⟩ := hscr hm
      exact va_slen hx hb x1 x2 (Nat.not_le.mpr x3) hS hdg (kk H locs ls cells slots rfl rfl X)
    · cases hq
      rcases hn with hn | hn
      · exact va_alen (ty := .int) (x := (n, .inl (wI w a))) hx hb hK hP a 0 (by rw [mWs_get (mSh hn).1, mCell_1 hn]) rfl rfl hdg (kk H locs ls cells slots rfl rfl X)
      · exact va_alen (ty := .long) (x := (n, .inr (.inl (wJ w a)))) hx hb hK hP a 3 (by rw [mWs_get (mSh hn).1, mCell_4 hn]) rfl rfl hdg (kk H locs ls cells slots rfl rfl X)
  case newarray t =>
    obtain ⟨n, r, rfl, hn0, hn1, hlt, ht, hq⟩ := mNwa_inv h
    cases hq
    have hc1 : cells + (w.1 ++ [(mAk t, n.toNatClampNeg)]).length ≤ R.cells + w.1.length := hc
    rw [List.length_append, List.length_singleton] at hc1
    have hcl : cells + 1 ≤ R.cells := by omega
    have hz1 : slots + (wZ w + n.toNatClampNeg) ≤ R.slots + wZ w := hz
    have hsl : slots + n.toNatClampNeg ≤ R.slots := by omega
    cases t
    case int =>
      refine va_newa (atype := .int) (ty := .int) (a0 := (n.toNatClampNeg, .inl (fun _ => 0))) hx hb (hts _ gA_int) rfl hK hP hD hS hA (fun _ => rfl) hn0 rfl (Nat.le_trans (Nat.mul_le_mul_right _ hn1) (by decide)) hcl hsl hdg (fun q cA H1 hK1 hP1 hD1 hS1 => ?_)
      have hcA := mK_cy hK (t := 0) rfl hK1
      subst hcA
      refine mW_sz (fun hsz => ?_)
      have hq1 := mPin hlt hP1 hD1 (by omega)
      subst hq1
      rw [mWs_new (q := (1, n.toNatClampNeg)) (n := n.toNatClampNeg) (by rw [mCell_1 mNew_sh]; rw [show wI (mNew w (1, n.toNatClampNeg) n.toNatClampNeg) w.1.length = (fun _ => 0) from mUp_s])] at hP1
      exact kk H1 locs ls (cells + 1) (slots + n.toNatClampNeg) (by show cells + 1 + w.1.length = cells + (w.1 ++ _).length; rw [List.length_append, List.length_singleton]; omega) (by show slots + n.toNatClampNeg + wZ w = slots + (wZ w + n.toNatClampNeg); omega) ⟨by show s.heap.size + (cells + 1) = base + (w.1 ++ _).length; rw [List.length_append, List.length_singleton]; omega, by show (w.1 ++ _).length ≤ 1000000; rw [List.length_append, List.length_singleton]; omega, hP1, hS1, hl, hLo⟩
    case byte =>
      refine va_newa (atype := .byte) (ty := .byte) (a0 := (n.toNatClampNeg, .inl (fun _ => 0))) hx hb (hts _ gA_byte) rfl hK hP hD hS hA (fun _ => rfl) hn0 rfl (Nat.le_trans (Nat.mul_le_mul_right _ hn1) (by decide)) hcl hsl hdg (fun q cA H1 hK1 hP1 hD1 hS1 => ?_)
      have hcA := mK_cy hK (t := 1) rfl hK1
      subst hcA
      refine mW_sz (fun hsz => ?_)
      have hq1 := mPin hlt hP1 hD1 (by omega)
      subst hq1
      rw [mWs_new (q := (2, n.toNatClampNeg)) (n := n.toNatClampNeg) (by rw [mCell_2 mNew_sh]; rw [show wI (mNew w (2, n.toNatClampNeg) n.toNatClampNeg) w.1.length = (fun _ => 0) from mUp_s])] at hP1
      exact kk H1 locs ls (cells + 1) (slots + n.toNatClampNeg) (by show cells + 1 + w.1.length = cells + (w.1 ++ _).length; rw [List.length_append, List.length_singleton]; omega) (by show slots + n.toNatClampNeg + wZ w = slots + (wZ w + n.toNatClampNeg); omega) ⟨by show s.heap.size + (cells + 1) = base + (w.1 ++ _).length; rw [List.length_append, List.length_singleton]; omega, by show (w.1 ++ _).length ≤ 1000000; rw [List.length_append, List.length_singleton]; omega, hP1, hS1, hl, hLo⟩
    case boolean =>
      refine va_newa (atype := .boolean) (ty := .boolean) (a0 := (n.toNatClampNeg, .inl (fun _ => 0))) hx hb (hts _ gA_bool) rfl hK hP hD hS hA (fun _ => rfl) hn0 rfl (Nat.le_trans (Nat.mul_le_mul_right _ hn1) (by decide)) hcl hsl hdg (fun q cA H1 hK1 hP1 hD1 hS1 => ?_)
      have hcA := mK_cy hK (t := 2) rfl hK1
      subst hcA
      refine mW_sz (fun hsz => ?_)
      have hq1 := mPin hlt hP1 hD1 (by omega)
      subst hq1
      rw [mWs_new (q := (3, n.toNatClampNeg)) (n := n.toNatClampNeg) (by rw [mCell_3 mNew_sh]; rw [show wI (mNew w (3, n.toNatClampNeg) n.toNatClampNeg) w.1.length = (fun _ => 0) from mUp_s])] at hP1
      exact kk H1 locs ls (cells + 1) (slots + n.toNatClampNeg) (by show cells + 1 + w.1.length = cells + (w.1 ++ _).length; rw [List.length_append, List.length_singleton]; omega) (by show slots + n.toNatClampNeg + wZ w = slots + (wZ w + n.toNatClampNeg); omega) ⟨by show s.heap.size + (cells + 1) = base + (w.1 ++ _).length; rw [List.length_append, List.length_singleton]; omega, by show (w.1 ++ _).length ≤ 1000000; rw [List.length_append, List.length_singleton]; omega, hP1, hS1, hl, hLo⟩
    case long =>
      refine va_newa (atype := .long) (ty := .long) (a0 := (n.toNatClampNeg, .inr (.inl (fun _ => 0)))) hx hb (hts _ gA_long) rfl hK hP hD hS hA (fun _ => rfl) hn0 rfl (Nat.le_trans (Nat.mul_le_mul_right _ hn1) (by decide)) hcl hsl hdg (fun q cA H1 hK1 hP1 hD1 hS1 => ?_)
      have hcA := mK_cy hK (t := 3) rfl hK1
      subst hcA
      refine mW_sz (fun hsz => ?_)
      have hq1 := mPin hlt hP1 hD1 (by omega)
      subst hq1
      rw [mWs_new (q := (4, n.toNatClampNeg)) (n := n.toNatClampNeg) (by rw [mCell_4 mNew_sh]; rw [show wJ (mNew w (4, n.toNatClampNeg) n.toNatClampNeg) w.1.length = (fun _ => 0) from mUp_s])] at hP1
      exact kk H1 locs ls (cells + 1) (slots + n.toNatClampNeg) (by show cells + 1 + w.1.length = cells + (w.1 ++ _).length; rw [List.length_append, List.length_singleton]; omega) (by show slots + n.toNatClampNeg + wZ w = slots + (wZ w + n.toNatClampNeg); omega) ⟨by show s.heap.size + (cells + 1) = base + (w.1 ++ _).length; rw [List.length_append, List.length_singleton]; omega, by show (w.1 ++ _).length ≤ 1000000; rw [List.length_append, List.length_singleton]; omega, hP1, hS1, hl, hLo⟩
    all_goals exact absurd rfl ht
  case anewarray k =>
    obtain ⟨n, r, rfl, hn0, hn1, hlt, ht, hq⟩ := mNwq_inv h
    cases hq
    have hc1 : cells + (w.1 ++ [(5, n.toNatClampNeg)]).length ≤ R.cells + w.1.length := hc
    rw [List.length_append, List.length_singleton] at hc1
    have hcl : cells + 1 ≤ R.cells := by omega
    have hz1 : slots + (wZ w + n.toNatClampNeg) ≤ R.slots + wZ w := hz
    have hsl : slots + n.toNatClampNeg ≤ R.slots := by omega
    refine va_newq (C := RX2) hx hb hown (hts _ (gN_ok ht).1) (hSx.1 s hS0) hK hP hD hS hA hn0 rfl (by omega) hcl hsl hdg (fun q cA H1 hK1 hP1 hD1 hS1 => ?_)
    have hcA := mK_cy hK (t := 4) rfl hK1
    subst hcA
    refine mW_sz (fun hsz => ?_)
    have hq1 := mPin hlt hP1 hD1 (by omega)
    subst hq1
    rw [mWs_new (q := (5, n.toNatClampNeg)) (n := n.toNatClampNeg) (by rw [mCell_5 mNew_sh]; rw [show wR (mNew w (5, n.toNatClampNeg) n.toNatClampNeg) w.1.length = (fun _ => none) from mUp_s]; rfl)] at hP1
    exact kk H1 locs ls (cells + 1) (slots + n.toNatClampNeg) (by show cells + 1 + w.1.length = cells + (w.1 ++ _).length; rw [List.length_append, List.length_singleton]; omega) (by show slots + n.toNatClampNeg + wZ w = slots + (wZ w + n.toNatClampNeg); omega) ⟨by show s.heap.size + (cells + 1) = base + (w.1 ++ _).length; rw [List.length_append, List.length_singleton]; omega, by show (w.1 ++ _).length ≤ 1000000; rw [List.length_append, List.length_singleton]; omega, hP1, hS1, hl, hLo⟩
  case new k =>
    obtain ⟨ci, ht, hci, hlt, hq⟩ := mNwo_inv h
    cases hq
    obtain ⟨c1, c2, c3, c4, c5, c6, c7, c8, c9, c10⟩ := gOkAll ci hci
    have hc1 : cells + (w.1 ++ [(0, ci)]).length ≤ R.cells + w.1.length := hc
    rw [List.length_append, List.length_singleton] at hc1
    have hcl : cells + 1 ≤ R.cells := by omega
    have hz1 : slots + (wZ w + (gFt.getD ci []).length) ≤ R.slots + wZ w := hz
    have hsl : slots + (gc ci).2.2 ≤ R.slots := by rw [← c4]; omega
    have hins : Cond.instantiable (gc ci).1 (gc ci).2.2 ∈ lwG := by
      rcases c8 with c8 | c8
      · exact lwG_in c8 rfl
      · omega
    refine va_new (ci := ci) (fs := mFs (mAd base b adK) (mNew w (0, ci) (gFt.getD ci []).length) w.1.length ci) (C := (gc ci).1) (T := (gc ci).2.1) (N := (gc ci).2.2) hx hb hts (gWsG hci) (gTy ci) c2 hown (hts _ (gN_ok ht).1) (hts _ hins) (hts _ (lwG_in c9 rfl)) hK hP hD hS hA c10 (fun j hj => ?_) hcl hsl hdg (fun q H1 hP1 hD1 hS1 => ?_)
    · unfold vp_V
      rw [List.getD_eq_getElem?_getD, mFs_get (by rw [c4]; exact hj), Option.getD_some]
      have e1 : wI (mNew w (0, ci) (gFt.getD ci []).length) w.1.length = fun _ => 0 := mUp_s
      have e2 : wJ (mNew w (0, ci) (gFt.getD ci []).length) w.1.length = fun _ => 0 := mUp_s
      have e3 : wR (mNew w (0, ci) (gFt.getD ci []).length) w.1.length = fun _ => none := mUp_s
      rcases c6 j hj with ⟨q, t⟩ | ⟨q, t⟩ | ⟨q, t⟩ | ⟨q, ⟨t, e9⟩ | ⟨t, e9⟩⟩
      · rw [t, show gKi ci j = 0 from q]; show _ = Value.int (wI _ _ j); rw [e1]; rfl
      · rw [t, show gKi ci j = 1 from q]; show _ = Value.long (wJ _ _ j); rw [e2]; rfl
      · rw [t, show gKi ci j = 3 from q]; show _ = Value.int (wI _ _ j); rw [e1]; rfl
      · rw [e9, show gKi ci j = 2 from q]; show _ = mCv _ (mRf (wR _ _ j)); rw [e3]; rfl
      · rw [e9, show gKi ci j = 2 from q]; show _ = mCv _ (mRf (wR _ _ j)); rw [e3]; rfl
    · refine mW_sz (fun hsz => ?_)
      have hq1 := mPin hlt hP1 hD1 (by omega)
      subst hq1
      rw [mWs_new (q := (0, ci)) (n := (gFt.getD ci []).length) (by rw [mCell_o mNew_sh])] at hP1
      rw [← c4]
      exact kk H1 locs ls (cells + 1) (slots + (gFt.getD ci []).length) (by show cells + 1 + w.1.length = cells + (w.1 ++ _).length; rw [List.length_append, List.length_singleton]; omega) (by show slots + (gFt.getD ci []).length + wZ w = slots + (wZ w + (gFt.getD ci []).length); omega) ⟨by show s.heap.size + (cells + 1) = base + (w.1 ++ _).length; rw [List.length_append, List.length_singleton]; omega, by show (w.1 ++ _).length ≤ 1000000; rw [List.length_append, List.length_singleton]; omega, hP1, hS1, hl, hLo⟩
  case invokespecial k =>
    obtain ⟨a, r, rfl, hm, hd0, hr, hq⟩ := mIsp_inv h
    have h9 : mCat (r.map (mCv (mAd base b adK))) ≤ 8 := by rw [mCats]; exact hr
    simp only [mCat] at h9
    cases hg : mLk gCall (gO mi) k with
    | none => rw [hg] at hm; cases hm
    | some q9 =>
      obtain ⟨mj, nn⟩ := q9
      rw [hg] at hm
      have hm : mj = 1000 := Option.some.inj hm
      subst hm
      have h1 : Cond.methodLink (gOwn.getD (gO mi) "") k objectInit ∈ lwG := mSpec hg (by decide)
      cases hq
      refine W.objInit hx hb hown (hts _ h1) (hts _ gOi) (hts _ gOc) rfl (by rw [hml]; exact hl.1) rfl hdg (Nat.le_trans hd0 hfr) ?_ (kk H locs ls cells slots rfl rfl X)
      have h7 : 2 * (F0 m pc ls (Value.ref (mAd base b adK a) :: st1'.map (mCv (mAd base b adK)))).monitorRoom = 0 := rfl
      rw [h7]
      omega
  case invokestatic k =>
    obtain ⟨mj, nn, hg, hv⟩ := mIst_inv h
    have h1 : 1000 ≤ mj → Cond.methodLink (gOwn.getD (gO mi) "") k (gSpY mj) ∈ lwG := mSpec hg
    rcases hv with ⟨rfl, hv⟩ | ⟨rfl, hv⟩ | ⟨rfl, hv⟩ | ⟨rfl, hv⟩
    · have h1 := h1 (by decide)
      obtain ⟨n, dp, a, sp, a0, r, n0, n1, rfl, hd0, hr, g1, g2, g3, g4, g5, hv⟩ := mAcp_inv hv
      have h9 : mCat (r.map (mCv (mAd base b adK))) ≤ 8 := by rw [mCats]; exact hr
      simp only [mCat] at h9
      have h8 : nativeFrameWords "java/lang/System" "arraycopy" 5 ≤ 40 := by decide +kernel
      rcases hv with ⟨s0, s1, hq⟩ | ⟨s0, s1, hq⟩
      · cases hq
        have hw : (mWs cy (mAd base b adK) w).set a (mAd base b adK a, .inl (cy 1, n1, .inl (va_cpy (wI w a0) (wI w a) sp.toNatClampNeg dp.toNatClampNeg n.toNatClampNeg))) = mWs cy (mAd base b adK) (wsI w (va_up (wI w) a (va_cpy (wI w a0) (wI w a) sp.toNatClampNeg dp.toNatClampNeg n.toNatClampNeg))) := by
          refine mWs_set rfl (mSh s1).1 ?_ (fun q hq => mCell_eq rfl (mUp_o hq) rfl rfl)
          rw [mCell_1 (w := wsI w (va_up (wI w) a (va_cpy (wI w a0) (wI w a) sp.toNatClampNeg dp.toNatClampNeg n.toNatClampNeg))) s1]
          show Sum.inl (cy 1, n1, Sum.inl (va_up (wI w) a _ a)) = _
          rw [mUp_s]
        refine va_copyi (ty := .int) hx hb (hml.trans hl.1.symm) hown (hts _ h1) (hts _ gCpn) (hts _ gCps) (hts _ gSyi) hK hP hD hS a0 a 0 0 (by rw [mWs_get (mSh s0).1, mCell_1 s0]) (by rw [mWs_get (mSh s1).1, mCell_1 s1]) rfl rfl rfl g1 g2 g3 g4 g5 (fun _ _ => rfl) (Nat.le_trans hd0 hfr) (by omega) hdg (fun H1 locs1 hP1 hD1 hS1 => ?_)
        exact kk H1 locs1 ls cells slots rfl rfl ⟨hE, hN, (congrArg (fun q => va_P (dC, dI) gCl q H1) hw).mp hP1, hS1, hl, hLo⟩
      · cases hq
        have hw : (mWs cy (mAd base b adK) w).set a (mAd base b adK a, .inl (cy 4, n1, .inr (.inl (va_cpy (wJ w a0) (wJ w a) sp.toNatClampNeg dp.toNatClampNeg n.toNatClampNeg)))) = mWs cy (mAd base b adK) (wsJ w (va_up (wJ w) a (va_cpy (wJ w a0) (wJ w a) sp.toNatClampNeg dp.toNatClampNeg n.toNatClampNeg))) := by
          refine mWs_set rfl (mSh s1).1 ?_ (fun q hq => mCell_eq rfl rfl (mUp_o hq) rfl)
          rw [mCell_4 (w := wsJ w (va_up (wJ w) a (va_cpy (wJ w a0) (wJ w a) sp.toNatClampNeg dp.toNatClampNeg n.toNatClampNeg))) s1]
          show Sum.inl (cy 4, n1, Sum.inr (Sum.inl (va_up (wJ w) a _ a))) = _
          rw [mUp_s]
        refine va_copyl (ty := .long) hx hb (hml.trans hl.1.symm) hown (hts _ h1) (hts _ gCpn) (hts _ gCps) (hts _ gSyi) hK hP hD hS a0 a 3 3 (by rw [mWs_get (mSh s0).1, mCell_4 s0]) (by rw [mWs_get (mSh s1).1, mCell_4 s1]) rfl rfl rfl g1 g2 g3 g4 g5 (fun _ _ => rfl) (Nat.le_trans hd0 hfr) (by omega) hdg (fun H1 locs1 hP1 hD1 hS1 => ?_)
        exact kk H1 locs1 ls cells slots rfl rfl ⟨hE, hN, (congrArg (fun q => va_P (dC, dI) gCl q H1) hw).mp hP1, hS1, hl, hLo⟩
    · have h1 := h1 (by decide)
      obtain ⟨x, y, r, rfl, hd0, hr, hq⟩ := mM2_inv hv
      cases hq
      refine va_mmax hx hb (hml.trans hl.1.symm) hown (hts _ h1) (hts _ gMmax) (hts _ gMini) (hts _ gMmaxC) (Nat.le_trans hd0 hfr) ?_ (by omega) (by omega) hdg (kk H locs ls cells slots rfl rfl X)
      have h9 : mCat (r.map (mCv (mAd base b adK))) ≤ 8 := by rw [mCats]; exact hr
      simp only [mCat] at h9
      omega
    · have h1 := h1 (by decide)
      obtain ⟨x, y, r, rfl, hd0, hr, hq⟩ := mM2_inv hv
      cases hq
      refine va_mmin hx hb (hml.trans hl.1.symm) hown (hts _ h1) (hts _ gMmin) (hts _ gMini) (hts _ gMminC) (Nat.le_trans hd0 hfr) ?_ (by omega) (by omega) hdg (kk H locs ls cells slots rfl rfl X)
      have h9 : mCat (r.map (mCv (mAd base b adK))) ≤ 8 := by rw [mCats]; exact hr
      simp only [mCat] at h9
      omega
    · have h1 := h1 (by decide)
      obtain ⟨x, r, rfl, hd0, hr, hq⟩ := mM1_inv hv
      cases hq
      refine va_mabs hx hb (hml.trans hl.1.symm) hown (hts _ h1) (hts _ gMabs) (hts _ gMini) (hts _ gMabsC) (Nat.le_trans hd0 hfr) ?_ (by omega) (by omega) hdg (kk H locs ls cells slots rfl rfl X)
      have h9 : mCat (r.map (mCv (mAd base b adK))) ≤ 8 := by rw [mCats]; exact hr
      simp only [mCat] at h9
      omega
  case invokevirtual k =>
    obtain ⟨mj, nn, hg, hv⟩ := mIvt_inv h
    have h1 : 1000 ≤ mj → Cond.methodLink (gOwn.getD (gO mi) "") k (gSpY mj) ∈ lwG := mSpec hg
    rcases hv with ⟨rfl, hv⟩ | ⟨rfl, hv⟩
    · obtain ⟨a, r, rfl, hd0, hr, ha0, ha1, hq⟩ := mSln_inv hv
      cases hq
      exact hstr.1 hx hb (hml.trans hl.1.symm) hown hts hS0 hS hbs (h1 (by decide)) (Nat.le_trans hd0 hfr) (by omega) ha0 ha1 (by rw [mCats]; exact hr) (by omega) (by omega) hdg (kk H locs ls cells slots rfl rfl X)
    · obtain ⟨j, a, r, rfl, hd0, hr, ha0, ha1, ho, hq⟩ := mSch_inv hv
      cases hq
      exact hstr.2 hx hb (hml.trans hl.1.symm) hown hts hS0 hS hbs (h1 (by decide)) (Nat.le_trans hd0 hfr) (by omega) ha0 ha1 ho (by rw [mCats]; exact hr) (by omega) (by omega) hdg (kk H locs ls cells slots rfl rfl X)
  all_goals exact absurd h (by simp [st1])
end STEP
end
section
/-! THE SMALL MACHINE IS SOUND: where it comes to an end, the JVM does, with the same world -/
theorem mPop_eq : ∀ {k : Nat} {st as r : List Value}, mPop k st = some (as, r) → st = as.reverse ++ r ∧ as.length = k
  | 0, st, as, r, h => by
    unfold mPop at h
    cases h
    exact ⟨rfl, rfl⟩
  | k + 1, [], as, r, h => by
    unfold mPop at h
    cases h
  | k + 1, v :: st, as, r, h => by
    unfold mPop at h
    split at h
    · rename_i as1 r1 h1
      cases h
      obtain ⟨h2, h3⟩ := mPop_eq h1
      refine ⟨?_, by rw [List.length_append, h3]; rfl⟩
      rw [h2, List.reverse_append]
      rfl
    · cases h
def mRetAt (mi pc : Nat) (v : Option Value) : Prop := (v = none ∧ decode (gMe mi).2.1 pc = .ok (.return_, 1) ∧ (gMe mi).2.2.2.1 = none) ∨ (∃ x, v = some (.int x) ∧ decode (gMe mi).2.1 pc = .ok (.ireturn, 1) ∧ ((gMe mi).2.2.2.1 = some .int ∨ ((gMe mi).2.2.2.1 = some .boolean ∧ (x = 0 ∨ x = 1)))) ∨ (∃ x, v = some (.long x) ∧ decode (gMe mi).2.1 pc = .ok (.lreturn, 1) ∧ (gMe mi).2.2.2.1 = some .long)
def mRm (d mc ms : Nat) : Room := { frames := d, cells := mc, slots := ms, locals := 60 * d }
def mPU (dC : Nat → ClassId) (dI : Nat → Nat → Nat) (cy : Nat → ClassId) (base b : Nat) (adK : Nat → Nat) (Sx : State → Prop) (w : mW) (U : State) : Prop := U.heap.size = base + w.1.length ∧ w.1.length ≤ 1000000 ∧ va_P (dC, dI) gCl (mWs cy (mAd base b adK) w) U.heap ∧ va_K (dC, dI) gCl (mTys cy) U ∧ Sx U
def mPc (dC : Nat → ClassId) (dI : Nat → Nat → Nat) (cy : Nat → ClassId) (base b : Nat) (adK : Nat → Nat) (Sx : State → Prop) (av : List Value) (w : mW) : Array Value → State → Prop := fun v U => v = av.toArray ∧ mPU dC dI cy base b adK Sx w U
def mQc (dC : Nat → ClassId) (dI : Nat → Nat → Nat) (cy : Nat → ClassId) (base b : Nat) (adK : Nat → Nat) (v : Option Value) (w' : mW) : Array Value → State → Outcome → State → Prop := fun _ st oc t => (oc = .returned (v.map (mCv (mAd base b adK))) ∧ t.heap.size = base + w'.1.length ∧ w'.1.length ≤ 1000000 ∧ va_P (dC, dI) gCl (mWs cy (mAd base b adK) w') t.heap) ∧ va_F (fun q => base ≤ q) st t
/-- from any frame at this point of the method: the end that the small machine comes to -/
def SND (l : Launch) (dC : Nat → ClassId) (dI : Nat → Nat → Nat) (cy : Nat → ClassId) (base b : Nat) (adK : Nat → Nat) (S : Nat × (Nat → Int32)) (Sx : State → Prop) (n : Nat) : Prop := ∀ (d mi pc : Nat) (Lo : mL) (st : List Value) (w w' : mW) (o : mO), mi < 253 → (gLw mi = true → mi = 0) → ex S n d mi pc Lo st w = some (o, w') → (w.1.length ≤ w'.1.length ∧ wZ w ≤ wZ w') ∧
  ∀ (p : Program) (e : Env) (R : Room) (s : State) (m : MethodId) (args : Array Value) (below : List Frame) (meth : Method) (c : Code) (H : Heap) (locs : List Loc) (cells slots : Nat) (Q : State → Prop) (ls : Array Slot), mFr dC dI cy base b S Sx d mi p R s m args meth c → mSt dC dI cy base b adK s mi Lo w H locs cells ls → cells + w'.1.length ≤ R.cells + w.1.length → slots + wZ w' ≤ R.slots + wZ w →
  (∀ v, o = some v → ∀ (pc' : Nat) (ls' : Array Slot) (H' : Heap) (locs' : List Loc) (cells' slots' : Nat), mRetAt mi pc' v → cells' + w.1.length = cells + w'.1.length → slots' + wZ w = slots + wZ w' → va_P (dC, dI) gCl (mWs cy (mAd base b adK) w') H' → va_S (fun q => base ≤ q) s.heap H' locs' → w'.1.length ≤ 1000000 → s.heap.size + cells' = base + w'.1.length → W p l e R s m args below meth c H' locs' cells' slots' Q (F0 m pc' ls' (v.map (mCv (mAd base b adK))).toList)) →
  (o = none → ∀ (pc' x : Nat) (ls' : Array Slot) (st' : List Value) (w0 : mW) (Lo0 : mL) (H' : Heap) (locs' : List Loc) (cells' slots' : Nat), w' = mNew w0 (0, 11) 6 → decode (gMe mi).2.1 pc' = .ok (.new x, 3) → mLk gNew (gO mi) x = some 11 → w0.1.length < 1000000 → cells' + w.1.length = cells + w0.1.length → slots' + wZ w = slots + wZ w0 → mSt dC dI cy base b adK s mi Lo0 w0 H' locs' cells' ls' → W p l e R s m args below meth c H' locs' cells' slots' Q (F0 m pc' ls' (st'.map (mCv (mAd base b adK))))) →
  W p l e R s m args below meth c H locs cells slots Q (F0 m pc ls (st.map (mCv (mAd base b adK))))
/-- the law's three helpers, as steps -/
def HELP (l : Launch) (dC : Nat → ClassId) (dI : Nat → Nat → Nat) (cy : Nat → ClassId) (base b : Nat) (adK : Nat → Nat) (S : Nat × (Nat → Int32)) (Sx : State → Prop) (n : Nat) : Prop := ∀ (d2 mj x0 q : Nat) (p0 p1 : Int32) (w w1 w2 : mW) (o : mO) (v : Int32), 246 ≤ mj → mj ≤ 248 → (wS w)[q]? = some (4, 1) → (wS w)[x0]? = some (0, 9) → ex S n d2 (mHelp mj) 0 (mIni (gMe (mHelp mj)).2.2.1 [.ref x0, .int p0, .int p1]) [] w = some (o, w1) → ((∃ z, o = some (some (.int z)) ∧ v = 0 ∧ w2 = wsJ w1 (mSet (wJ w1) q 0 z.toInt64)) ∨ (o = none ∧ v = 1 ∧ w2 = w1)) →
  ∀ (p : Program) (e : Env) (R : Room) (s : State) (m : MethodId) (args : Array Value) (below : List Frame) (meth : Method) (c : Code) (H : Heap) (locs : List Loc) (cells slots : Nat) (Q : State → Prop) (ls : Array Slot) (d mi pc k : Nat) (Lo : mL) (r : List Value), d2 + 2 ≤ d → mFr dC dI cy base b S Sx d mi p R s m args meth c → mSt dC dI cy base b adK s mi Lo w H locs cells ls → cells + w1.1.length ≤ R.cells + w.1.length → slots + wZ w1 ≤ R.slots + wZ w → mCat r ≤ 8 → mLk gCall (gO mi) k = some (mj, 0) → decode (gMe mi).2.1 pc = .ok (.invokestatic k, 3) →
  (∀ (H1 : Heap) (locs1 : List Loc) (ls1 : Array Slot) (cells1 slots1 : Nat), cells1 + w.1.length = cells + w1.1.length → slots1 + wZ w = slots + wZ w1 → mSt dC dI cy base b adK s mi Lo w2 H1 locs1 cells1 ls1 → W p l e R s m args below meth c H1 locs1 cells1 slots1 Q (F0 m (pc + 3) ls1 ((Value.int v :: r).map (mCv (mAd base b adK))))) →
  W p l e R s m args below meth c H locs cells slots Q (F0 m pc ls ((.ref q :: .int p1 :: .int p0 :: .ref x0 :: r).map (mCv (mAd base b adK))))
section SNDS
variable {l : Launch} {dC : Nat → ClassId} {dI : Nat → Nat → Nat} {cy : Nat → ClassId} {base b : Nat} {adK : Nat → Nat} {S : Nat × (Nat → Int32)} {Sx : State → Prop}
set_option maxHeartbeats 1000000 in
theorem mMet (hSx : mSxOk base b adK Sx) {n d mj : Nat} {as : List Value} {w w' : mW} {v : Option Value} (hS : SND l dC dI cy base b adK S Sx n) (hj : mj < 253) (hlw : gLw mj = false) (hx : ex S n d mj 0 (mIni (gMe mj).2.2.1 as) [] w = some (some v, w')) (hlen : (mArg as).length ≤ (gMe mj).2.2.1) :
    Met l (gMe mj).1 (Cond.code (gMe mj).1 (gMe mj).2.1 (gMe mj).2.2.1 (gMe mj).2.2.2.1 :: lwG) (mRm d (w'.1.length - w.1.length) (wZ w' - wZ w)) (mPc dC dI cy base b adK Sx (as.map (mCv (mAd base b adK))) w) (mQc dC dI cy base b adK v w') (w'.1.length - w.1.length) (wZ w' - wZ w) (fun q => base ≤ q) := by
  obtain ⟨k1, k2, k3, k4, k5, k6, k7, k8, k9, k10⟩ := gM_ok hj hlw
  have hne : mj ≠ 0 := by
    intro z
    subst z
    cases hlw
  refine Met.ofW (cc := (gMe mj).2.1) (maxL := (gMe mj).2.2.1) (ret := (gMe mj).2.2.2.1) k8 rfl ?_
  intro p e s m args below meth c s₁ B hml hv
  obtain ⟨rfl, hsz, hN, hP, hK, hSx1⟩ := hv
  obtain ⟨⟨hm1, hm2⟩, hgo⟩ := hS d mj 0 (mIni (gMe mj).2.2.1 as) [] w w' (some v) hj (fun z => absurd (z.symm.trans hlw) (by decide)) hx
  rw [lg_entry_eq]
  have hr := B.returns
  have hlocks := B.notSynchronized
  refine hgo p e _ s m _ below meth c s.heap [] 0 0 _ _ ⟨B.exec, B.bytes, hml, ?_, ?_, hK, hSx1, ?_, ⟨Nat.le_refl d, Nat.le_refl (60 * d)⟩, by omega, fun z => absurd z hne⟩ ⟨by omega, hN, hP, va_S.rf, mIni_has hlen, mIni_len hlen⟩ ?_ ?_ ?_ (fun z => by cases z)
  · rw [← k9]
    exact findClass_of_methodNamed B.named
  · intro q hq
    exact atoms_spec (ws := Cond.code (gMe mj).1 (gMe mj).2.1 (gMe mj).2.2.1 (gMe mj).2.2.2.1 :: lwG) B.pre q (List.mem_cons_of_mem _ hq)
  · intro z
    rw [(name_of_methodNamed B.named B.method).1]
    exact (k6 z).1
  · show 0 + w'.1.length ≤ (w'.1.length - w.1.length) + w.1.length
    omega
  · show 0 + wZ w' ≤ (wZ w' - wZ w) + wZ w
    omega
  · intro v1 hv1 pc' ls' H' locs' cells' slots' hra hc1 hc2 hP1 hS1 hN1 hE1
    cases hv1
    have hc3 : cells' = w'.1.length - w.1.length := by omega
    have hc4 : slots' = wZ w' - wZ w := by omega
    subst hc3
    subst hc4
    refine mW_sz (fun hsz1 => ?_)
    have hlo := mSize hN1 (Nat.le_trans (by omega : base ≤ s.heap.size) hS1.1) hP1
    have hH : H'.size = base + w'.1.length := by omega
    have hq : ∀ t : State, t.heap = H' → s.WarmedH t.vm → mQc dC dI cy base b adK v w' (as.map (mCv (mAd base b adK))).toArray s (.returned (v.map (mCv (mAd base b adK)))) t := fun t ht hW => ⟨⟨rfl, by rw [ht]; exact hH, hN1, by rw [ht]; exact hP1⟩, hS1.F ht⟩
    rcases hra with ⟨rfl, hdg, hrt⟩ | ⟨x, rfl, hdg, hrt⟩ | ⟨x, rfl, hdg, hrt⟩
    · exact W.vret B.exec B.bytes (hr.trans hrt) hq hS1.2.2 hdg hlocks
    · rcases hrt with hrt | ⟨hrt, hx01⟩
      · exact W.iret B.exec B.bytes (hr.trans hrt) hq hS1.2.2 hdg hlocks
      · refine W.zret (ty := .boolean) B.exec B.bytes (hr.trans hrt) ?_ hq hS1.2.2 hdg hlocks
        rcases hx01 with rfl | rfl <;> rfl
    · exact W.lret B.exec B.bytes (hr.trans hrt) hq hS1.2.2 hdg hlocks
variable {p : Program} {e : Env} {R : Room} {s : State} {m : MethodId} {args : Array Value} {below : List Frame} {meth : Method} {c : Code} {H : Heap} {locs : List Loc} {cells slots : Nat} {Q : State → Prop} {d mi pc : Nat} {Lo Lo1 : mL} {ls : Array Slot} {st st1' : List Value} {w w1 : mW}
theorem mCall {v : Option Value} {w' : mW} {mc ms : Nat} {st0 rest : List Value} {a : Array Value} (hr : va_Run p l e R s m args below meth c H locs cells slots mc ms (F0 m pc ls st0) rest (mQc dC dI cy base b adK v w' a) (fun q => base ≤ q)) (hS : va_S (fun q => base ≤ q) s.heap H locs)
    (kk : ∀ (H1 : Heap) (locs1 : List Loc), w'.1.length ≤ 1000000 → va_P (dC, dI) gCl (mWs cy (mAd base b adK) w') H1 → va_S (fun q => base ≤ q) s.heap H1 locs1 → W p l e R s m args below meth c H1 locs1 (cells + mc) (slots + ms) Q (F0 m (pc + 3) ls ((v.map (mCv (mAd base b adK))).toList ++ rest))) : W p l e R s m args below meth c H locs cells slots Q (F0 m pc ls st0) := by
  intro T hT X
  obtain ⟨v9, st₀, t, T', L, h0, X', hL, e1, e2, ⟨⟨hv, hz1, hN, hP⟩, hz, hk⟩, st⟩ := hr T hT X
  cases hv
  rw [h0] at hz hk
  obtain ⟨t2, a1, b1⟩ := kk T'.heap (locs ++ L) hN (by rw [e1]; exact hP) ⟨Nat.le_trans hS.1 (by rw [e1]; exact hz), fun q h1 h2 => by rw [e1, hk q (Nat.lt_of_lt_of_le h1 hS.1) h2]; exact hS.2.1 q h1 h2, fun q hq => by
      rcases List.mem_append.mp hq with h | h
      · exact hS.2.2 q h
      · exact hL q h⟩ T' rfl X'
  exact ⟨t2, st t2 a1, b1⟩
/-- the start that a callee asks for -/
theorem mPre (hSx : mSxOk base b adK Sx) (F : mFr dC dI cy base b S Sx d mi p R s m args meth c) (X : mSt dC dI cy base b adK s mi Lo w H locs cells ls) (hH : H.size = base + w.1.length) (av : List Value) : FrameBlind (mPc dC dI cy base b adK Sx av w) ∧ ∀ U : State, U.heap = H → s.WarmedH U.vm → mPc dC dI cy base b adK Sx av w av.toArray U := by
  obtain ⟨hx, hb, hml, hown, hts, hK, hS0, hin, ⟨hfr, hlo⟩, hbs, hscr⟩ := F
  obtain ⟨hE, hN, hP, hS, hl, hLo⟩ := X
  refine ⟨fun a U g mk q => ⟨q.1, q.2.1, q.2.2.1, q.2.2.2.1, va_K.moved (u := U) (U := U.calling g mk a) (Vm.Alike.refl U.vm) q.2.2.2.2.1, hSx.2.2.2.2 U g mk a q.2.2.2.2.2⟩, fun U hU hW => ⟨rfl, by rw [hU]; exact hH, hN, by rw [hU]; exact hP, va_K.moved hW.alike hK, hSx.2.2.2.1 s U H locs hS0 hS hbs hU hW⟩⟩
theorem gGood {mj : Nat} (k1 : Cond.code (gMe mj).1 (gMe mj).2.1 (gMe mj).2.2.1 (gMe mj).2.2.2.1 ∈ lw_tbl) : GoodIn lwG (Cond.code (gMe mj).1 (gMe mj).2.1 (gMe mj).2.2.1 (gMe mj).2.2.2.1 :: lwG) := by
  intro w hw
  rcases List.mem_cons.mp hw with rfl | hw
  · exact ⟨lwG_in k1 rfl, good_of_word rfl⟩
  · exact ⟨hw, good_of_word (lwG_good hw)⟩
theorem gGoodA {A B : List Cond} (hA : ∀ w ∈ A, w ∈ lwG) (hB : GoodIn lwG B) : GoodIn lwG (A ++ B) := by
  intro w hw
  rcases List.mem_append.mp hw with hw | hw
  · exact ⟨hA w hw, good_of_word (lwG_good (hA w hw))⟩
  · exact hB w hw
end SNDS
end
section
theorem gHelp0 : ∀ q ∈ gCall, 246 ≤ q.2.2.1 → q.2.2.1 ≤ 248 → q.2.2.2 = 0 := by decide +kernel
theorem mNotLaw2 {mj : Nat} (h0 : mj ≠ 0) (h1 : ¬ (246 ≤ mj ∧ mj ≤ 248)) : gLw mj = false := by
  cases h : gLw mj with
  | false => rfl
  | true =>
    exfalso
    unfold gLw at h
    simp only [Bool.or_eq_true] at h
    rcases h with ((h | h) | h) | h <;> (have h := Nat.eq_of_beq_eq_true h; omega)
theorem mNotLaw {mj : Nat} (hj : mj < 253) (hk : ¬ (gMe mj).2.2.2.2.2.2 = 0) : gLw mj = false := by
  cases h : gLw mj with
  | false => rfl
  | true =>
    exfalso
    unfold gLw at h
    simp only [Bool.or_eq_true] at h
    rcases h with ((h | h) | h) | h <;> (have h := Nat.eq_of_beq_eq_true h; subst h; exact hk rfl)
theorem mSpY {mj : Nat} (h : mj < 1000) : gSpY mj = (gMe mj).1 := by
  unfold gSpY
  split <;> first | omega | rfl
theorem st1_mono {S : Nat × (Nat → Int32)} {d mi : Nat} {i : Instr} {Lo Lo1 : mL} {st st1' : List Value} {w w1 : mW} (h : st1 S d mi i Lo st w = some (Lo1, st1', w1)) : w.1.length ≤ w1.1.length ∧ wZ w ≤ wZ w1 := by
  cases i
  case iconst n =>
    cases h
    exact ⟨Nat.le_refl _, Nat.le_refl _⟩
  case bipush n =>
    cases h
    exact ⟨Nat.le_refl _, Nat.le_refl _⟩
  case sipush n =>
    cases h
    exact ⟨Nat.le_refl _, Nat.le_refl _⟩
  case lconst n =>
    cases h
    exact ⟨Nat.le_refl _, Nat.le_refl _⟩
  case iload k =>
    obtain ⟨x, hv, hq⟩ := mLdI_inv h
    cases hq
    exact ⟨Nat.le_refl _, Nat.le_refl _⟩
  case iload_n k =>
    obtain ⟨x, hv, hq⟩ := mLdI_inv h
    cases hq
    exact ⟨Nat.le_refl _, Nat.le_refl _⟩
  case lload k =>
    obtain ⟨x, hv, hq⟩ := mLdL_inv h
    cases hq
    exact ⟨Nat.le_refl _, Nat.le_refl _⟩
  case lload_n k =>
    obtain ⟨x, hv, hq⟩ := mLdL_inv h
    cases hq
    exact ⟨Nat.le_refl _, Nat.le_refl _⟩
  case aload k =>
    obtain ⟨x, hv, hq⟩ := mLdA_inv h
    cases hq
    exact ⟨Nat.le_refl _, Nat.le_refl _⟩
  case aload_n k =>
    obtain ⟨x, hv, hq⟩ := mLdA_inv h
    cases hq
    exact ⟨Nat.le_refl _, Nat.le_refl _⟩
  case istore k =>
    obtain ⟨x, r, L, rfl, hL, hq⟩ := mStI_inv h
    cases hq
    exact ⟨Nat.le_refl _, Nat.le_refl _⟩
  case istore_n k =>
    obtain ⟨x, r, L, rfl, hL, hq⟩ := mStI_inv h
    cases hq
    exact ⟨Nat.le_refl _, Nat.le_refl _⟩
  case lstore k =>
    obtain ⟨x, r, L, rfl, hL, hq⟩ := mStL_inv h
    cases hq
    exact ⟨Nat.le_refl _, Nat.le_refl _⟩
  case lstore_n k =>
    obtain ⟨x, r, L, rfl, hL, hq⟩ := mStL_inv h
    cases hq
    exact ⟨Nat.le_refl _, Nat.le_refl _⟩
  case astore k =>
    obtain ⟨x, r, L, rfl, hL, hq⟩ := mStA_inv h
    cases hq
    exact ⟨Nat.le_refl _, Nat.le_refl _⟩
  case astore_n k =>
    obtain ⟨x, r, L, rfl, hL, hq⟩ := mStA_inv h
    cases hq
    exact ⟨Nat.le_refl _, Nat.le_refl _⟩
  case iinc k n =>
    obtain ⟨x, L, hv, hL, hq⟩ := mInc_inv h
    cases hq
    exact ⟨Nat.le_refl _, Nat.le_refl _⟩
  case iadd =>
    rcases mDef_inv (i := .iadd) h with ⟨x, y, r, v, rfl, hv, hq⟩ | ⟨x, y, r, v, rfl, hv, hq⟩ | ⟨x, y, r, v, rfl, hv, hq⟩ <;> cases hq <;> exact ⟨Nat.le_refl _, Nat.le_refl _⟩
  case isub =>
    rcases mDef_inv (i := .isub) h with ⟨x, y, r, v, rfl, hv, hq⟩ | ⟨x, y, r, v, rfl, hv, hq⟩ | ⟨x, y, r, v, rfl, hv, hq⟩ <;> cases hq <;> exact ⟨Nat.le_refl _, Nat.le_refl _⟩
  case imul =>
    rcases mDef_inv (i := .imul) h with ⟨x, y, r, v, rfl, hv, hq⟩ | ⟨x, y, r, v, rfl, hv, hq⟩ | ⟨x, y, r, v, rfl, hv, hq⟩ <;> cases hq <;> exact ⟨Nat.le_refl _, Nat.le_refl _⟩
  case iand =>
    rcases mDef_inv (i := .iand) h with ⟨x, y, r, v, rfl, hv, hq⟩ | ⟨x, y, r, v, rfl, hv, hq⟩ | ⟨x, y, r, v, rfl, hv, hq⟩ <;> cases hq <;> exact ⟨Nat.le_refl _, Nat.le_refl _⟩
  case ior =>
    rcases mDef_inv (i := .ior) h with ⟨x, y, r, v, rfl, hv, hq⟩ | ⟨x, y, r, v, rfl, hv, hq⟩ | ⟨x, y, r, v, rfl, hv, hq⟩ <;> cases hq <;> exact ⟨Nat.le_refl _, Nat.le_refl _⟩
  case ixor =>
    rcases mDef_inv (i := .ixor) h with ⟨x, y, r, v, rfl, hv, hq⟩ | ⟨x, y, r, v, rfl, hv, hq⟩ | ⟨x, y, r, v, rfl, hv, hq⟩ <;> cases hq <;> exact ⟨Nat.le_refl _, Nat.le_refl _⟩
  case ishl =>
    rcases mDef_inv (i := .ishl) h with ⟨x, y, r, v, rfl, hv, hq⟩ | ⟨x, y, r, v, rfl, hv, hq⟩ | ⟨x, y, r, v, rfl, hv, hq⟩ <;> cases hq <;> exact ⟨Nat.le_refl _, Nat.le_refl _⟩
  case ishr =>
    rcases mDef_inv (i := .ishr) h with ⟨x, y, r, v, rfl, hv, hq⟩ | ⟨x, y, r, v, rfl, hv, hq⟩ | ⟨x, y, r, v, rfl, hv, hq⟩ <;> cases hq <;> exact ⟨Nat.le_refl _, Nat.le_refl _⟩
  case iushr =>
    rcases mDef_inv (i := .iushr) h with ⟨x, y, r, v, rfl, hv, hq⟩ | ⟨x, y, r, v, rfl, hv, hq⟩ | ⟨x, y, r, v, rfl, hv, hq⟩ <;> cases hq <;> exact ⟨Nat.le_refl _, Nat.le_refl _⟩
  case idiv =>
    rcases mDef_inv (i := .idiv) h with ⟨x, y, r, v, rfl, hv, hq⟩ | ⟨x, y, r, v, rfl, hv, hq⟩ | ⟨x, y, r, v, rfl, hv, hq⟩ <;> cases hq <;> exact ⟨Nat.le_refl _, Nat.le_refl _⟩
  case irem =>
    rcases mDef_inv (i := .irem) h with ⟨x, y, r, v, rfl, hv, hq⟩ | ⟨x, y, r, v, rfl, hv, hq⟩ | ⟨x, y, r, v, rfl, hv, hq⟩ <;> cases hq <;> exact ⟨Nat.le_refl _, Nat.le_refl _⟩
  case ladd =>
    rcases mDef_inv (i := .ladd) h with ⟨x, y, r, v, rfl, hv, hq⟩ | ⟨x, y, r, v, rfl, hv, hq⟩ | ⟨x, y, r, v, rfl, hv, hq⟩ <;> cases hq <;> exact ⟨Nat.le_refl _, Nat.le_refl _⟩
  case lsub =>
    rcases mDef_inv (i := .lsub) h with ⟨x, y, r, v, rfl, hv, hq⟩ | ⟨x, y, r, v, rfl, hv, hq⟩ | ⟨x, y, r, v, rfl, hv, hq⟩ <;> cases hq <;> exact ⟨Nat.le_refl _, Nat.le_refl _⟩
  case lmul =>
    rcases mDef_inv (i := .lmul) h with ⟨x, y, r, v, rfl, hv, hq⟩ | ⟨x, y, r, v, rfl, hv, hq⟩ | ⟨x, y, r, v, rfl, hv, hq⟩ <;> cases hq <;> exact ⟨Nat.le_refl _, Nat.le_refl _⟩
  case land =>
    rcases mDef_inv (i := .land) h with ⟨x, y, r, v, rfl, hv, hq⟩ | ⟨x, y, r, v, rfl, hv, hq⟩ | ⟨x, y, r, v, rfl, hv, hq⟩ <;> cases hq <;> exact ⟨Nat.le_refl _, Nat.le_refl _⟩
  case lor =>
    rcases mDef_inv (i := .lor) h with ⟨x, y, r, v, rfl, hv, hq⟩ | ⟨x, y, r, v, rfl, hv, hq⟩ | ⟨x, y, r, v, rfl, hv, hq⟩ <;> cases hq <;> exact ⟨Nat.le_refl _, Nat.le_refl _⟩
  case lxor =>
    rcases mDef_inv (i := .lxor) h with ⟨x, y, r, v, rfl, hv, hq⟩ | ⟨x, y, r, v, rfl, hv, hq⟩ | ⟨x, y, r, v, rfl, hv, hq⟩ <;> cases hq <;> exact ⟨Nat.le_refl _, Nat.le_refl _⟩
  case ldiv =>
    rcases mDef_inv (i := .ldiv) h with ⟨x, y, r, v, rfl, hv, hq⟩ | ⟨x, y, r, v, rfl, hv, hq⟩ | ⟨x, y, r, v, rfl, hv, hq⟩ <;> cases hq <;> exact ⟨Nat.le_refl _, Nat.le_refl _⟩
  case lrem =>
    rcases mDef_inv (i := .lrem) h with ⟨x, y, r, v, rfl, hv, hq⟩ | ⟨x, y, r, v, rfl, hv, hq⟩ | ⟨x, y, r, v, rfl, hv, hq⟩ <;> cases hq <;> exact ⟨Nat.le_refl _, Nat.le_refl _⟩
  case lshl =>
    rcases mDef_inv (i := .lshl) h with ⟨x, y, r, v, rfl, hv, hq⟩ | ⟨x, y, r, v, rfl, hv, hq⟩ | ⟨x, y, r, v, rfl, hv, hq⟩ <;> cases hq <;> exact ⟨Nat.le_refl _, Nat.le_refl _⟩
  case lshr =>
    rcases mDef_inv (i := .lshr) h with ⟨x, y, r, v, rfl, hv, hq⟩ | ⟨x, y, r, v, rfl, hv, hq⟩ | ⟨x, y, r, v, rfl, hv, hq⟩ <;> cases hq <;> exact ⟨Nat.le_refl _, Nat.le_refl _⟩
  case lushr =>
    rcases mDef_inv (i := .lushr) h with ⟨x, y, r, v, rfl, hv, hq⟩ | ⟨x, y, r, v, rfl, hv, hq⟩ | ⟨x, y, r, v, rfl, hv, hq⟩ <;> cases hq <;> exact ⟨Nat.le_refl _, Nat.le_refl _⟩
  case ineg =>
    obtain ⟨x, r, rfl, hq⟩ := mUnI_inv h
    cases hq
    exact ⟨Nat.le_refl _, Nat.le_refl _⟩
  case i2l =>
    obtain ⟨x, r, rfl, hq⟩ := mUnI_inv h
    cases hq
    exact ⟨Nat.le_refl _, Nat.le_refl _⟩
  case i2b =>
    obtain ⟨x, r, rfl, hq⟩ := mUnI_inv h
    cases hq
    exact ⟨Nat.le_refl _, Nat.le_refl _⟩
  case lneg =>
    obtain ⟨x, r, rfl, hq⟩ := mUnL_inv h
    cases hq
    exact ⟨Nat.le_refl _, Nat.le_refl _⟩
  case l2i =>
    obtain ⟨x, r, rfl, hq⟩ := mUnL_inv h
    cases hq
    exact ⟨Nat.le_refl _, Nat.le_refl _⟩
  case lcmp =>
    obtain ⟨x, y, r, rfl, hq⟩ := mCmp_inv h
    cases hq
    exact ⟨Nat.le_refl _, Nat.le_refl _⟩
  case dup =>
    obtain ⟨v, r, rfl, hv, hq⟩ := mDup_inv h
    cases hq
    exact ⟨Nat.le_refl _, Nat.le_refl _⟩
  case pop =>
    obtain ⟨v, r, rfl, hv, hq⟩ := mPp_inv h
    cases hq
    exact ⟨Nat.le_refl _, Nat.le_refl _⟩
  case dup2 =>
    obtain ⟨x, y, r, rfl, hq⟩ := mDup2_inv h
    cases hq
    exact ⟨Nat.le_refl _, Nat.le_refl _⟩
  case ldc k =>
    rcases mLdc_inv h with ⟨v, hv, hq⟩ | ⟨v, hv, hq⟩ <;> cases hq <;> exact ⟨Nat.le_refl _, Nat.le_refl _⟩
  case ldc_w k =>
    obtain ⟨v, hv, hq⟩ := mLdcW_inv h
    cases hq
    exact ⟨Nat.le_refl _, Nat.le_refl _⟩
  case ldc2_w k =>
    obtain ⟨v, hv, hq⟩ := mLdc2_inv h
    cases hq
    exact ⟨Nat.le_refl _, Nat.le_refl _⟩
  case getfield k =>
    obtain ⟨a, r, ci, j, rfl, h1, h2, hq⟩ := mGet_inv h
    cases hq
    exact ⟨Nat.le_refl _, Nat.le_refl _⟩
  case putfield k =>
    obtain ⟨v, a, r, ci, j, w9, rfl, h1, h2, hq, hv⟩ := mPut_inv h
    cases hq
    rcases hv with ⟨z, rfl, hf, hk, rfl⟩ | ⟨z, rfl, hf, hk, rfl⟩ | ⟨z, rfl, hf, hk, hi, ho, rfl⟩ <;> exact ⟨Nat.le_refl _, Nat.le_refl _⟩
  case iaload =>
    obtain ⟨j, a, r, rfl, hv⟩ := mIal_inv h
    rcases hv with ⟨rfl, hm, ho, hq⟩ | ⟨n, hn, ho, hq⟩ <;> cases hq <;> exact ⟨Nat.le_refl _, Nat.le_refl _⟩
  case baload =>
    obtain ⟨j, a, r, n, rfl, hn, ho, hq⟩ := mBal_inv h
    cases hq
    exact ⟨Nat.le_refl _, Nat.le_refl _⟩
  case laload =>
    obtain ⟨j, a, r, n, rfl, hn, ho, hq⟩ := mLal_inv h
    cases hq
    exact ⟨Nat.le_refl _, Nat.le_refl _⟩
  case aaload =>
    obtain ⟨j, a, r, n, rfl, hn, ho, hq⟩ := mAal_inv h
    cases hq
    exact ⟨Nat.le_refl _, Nat.le_refl _⟩
  case iastore =>
    obtain ⟨v, j, a, r, n, rfl, hn, ho, hq⟩ := mIas_inv h
    cases hq
    exact ⟨Nat.le_refl _, Nat.le_refl _⟩
  case bastore =>
    obtain ⟨v, j, a, r, n, rfl, ho, hv⟩ := mBas_inv h
    rcases hv with ⟨hn, hq⟩ | ⟨hn, hq⟩ <;> cases hq <;> exact ⟨Nat.le_refl _, Nat.le_refl _⟩
  case lastore =>
    obtain ⟨v, j, a, r, n, rfl, hn, ho, hq⟩ := mLas_inv h
    cases hq
    exact ⟨Nat.le_refl _, Nat.le_refl _⟩
  case aastore =>
    obtain ⟨v, j, a, r, n, rfl, hn, ho, hv, hq⟩ := mAas_inv h
    cases hq
    exact ⟨Nat.le_refl _, Nat.le_refl _⟩
  case arraylength =>
    obtain ⟨a, r, rfl, hv⟩ := mAln_inv h
    rcases hv with ⟨rfl, hm, hq⟩ | ⟨n, hn, hq⟩ <;> cases hq <;> exact ⟨Nat.le_refl _, Nat.le_refl _⟩
  case newarray t =>
    obtain ⟨n, r, rfl, hn0, hn1, hlt, ht, hq⟩ := mNwa_inv h
    cases hq
    exact ⟨by show w.1.length ≤ (w.1 ++ _).length; rw [List.length_append]; omega, Nat.le_add_right _ _⟩
  case anewarray k =>
    obtain ⟨n, r, rfl, hn0, hn1, hlt, ht, hq⟩ := mNwq_inv h
    cases hq
    exact ⟨by show w.1.length ≤ (w.1 ++ _).length; rw [List.length_append]; omega, Nat.le_add_right _ _⟩
  case new k =>
    obtain ⟨ci, ht, hci, hlt, hq⟩ := mNwo_inv h
    cases hq
    exact ⟨by show w.1.length ≤ (w.1 ++ _).length; rw [List.length_append]; omega, Nat.le_add_right _ _⟩
  case invokespecial k =>
    obtain ⟨a, r, rfl, hm, hd0, hr, hq⟩ := mIsp_inv h
    cases hq
    exact ⟨Nat.le_refl _, Nat.le_refl _⟩
  case invokestatic k =>
    obtain ⟨mj, nn, hg, hv⟩ := mIst_inv h
    rcases hv with ⟨rfl, hv⟩ | ⟨rfl, hv⟩ | ⟨rfl, hv⟩ | ⟨rfl, hv⟩
    · obtain ⟨n, dp, a, sp, a0, r, n0, n1, rfl, hd0, hr, g1, g2, g3, g4, g5, hv⟩ := mAcp_inv hv
      rcases hv with ⟨s0, s1, hq⟩ | ⟨s0, s1, hq⟩ <;> cases hq <;> exact ⟨Nat.le_refl _, Nat.le_refl _⟩
    · obtain ⟨x, y, r, rfl, hd0, hr, hq⟩ := mM2_inv hv
      cases hq
      exact ⟨Nat.le_refl _, Nat.le_refl _⟩
    · obtain ⟨x, y, r, rfl, hd0, hr, hq⟩ := mM2_inv hv
      cases hq
      exact ⟨Nat.le_refl _, Nat.le_refl _⟩
    · obtain ⟨x, r, rfl, hd0, hr, hq⟩ := mM1_inv hv
      cases hq
      exact ⟨Nat.le_refl _, Nat.le_refl _⟩
  case invokevirtual k =>
    obtain ⟨mj, nn, hg, hv⟩ := mIvt_inv h
    rcases hv with ⟨rfl, hv⟩ | ⟨rfl, hv⟩
    · obtain ⟨a, r, rfl, hd0, hr, ha0, ha1, hq⟩ := mSln_inv hv
      cases hq
      exact ⟨Nat.le_refl _, Nat.le_refl _⟩
    · obtain ⟨j, a, r, rfl, hd0, hr, ha0, ha1, ho, hq⟩ := mSch_inv hv
      cases hq
      exact ⟨Nat.le_refl _, Nat.le_refl _⟩
  all_goals exact absurd h (by simp [st1])
theorem i32_le {x y : Int32} : x ≤ y ↔ ¬ y < x := by
  rw [Int32.le_iff_toInt_le, Int32.lt_iff_toInt_lt]
  omega
theorem mBr_map {α : Type} {c : Jvm.ClassFile.Cond} {x y : Int32} {A B r : α} {P P' : Prop} (hA : A = r → P) (hB : B = r → P') (h : mBr c x y A B = r) : mBr c x y P P' := by
  cases c with
  | eq =>
    have h : (if x = y then A else B) = r := h
    show if x = y then P else P'
    by_cases q : x = y
    · rw [if_pos q] at h ⊢; exact hA h
    · rw [if_neg q] at h ⊢; exact hB h
  | ne =>
    have h : (if x = y then B else A) = r := h
    show if x = y then P' else P
    by_cases q : x = y
    · rw [if_pos q] at h ⊢; exact hB h
    · rw [if_neg q] at h ⊢; exact hA h
  | lt =>
    have h : (if x < y then A else B) = r := h
    show if x < y then P else P'
    by_cases q : x < y
    · rw [if_pos q] at h ⊢; exact hA h
    · rw [if_neg q] at h ⊢; exact hB h
  | ge =>
    have h : (if x < y then B else A) = r := h
    show if x < y then P' else P
    by_cases q : x < y
    · rw [if_pos q] at h ⊢; exact hB h
    · rw [if_neg q] at h ⊢; exact hA h
  | gt =>
    have h : (if y < x then A else B) = r := h
    show if y < x then P else P'
    by_cases q : y < x
    · rw [if_pos q] at h ⊢; exact hA h
    · rw [if_neg q] at h ⊢; exact hB h
  | le =>
    have h : (if y < x then B else A) = r := h
    show if y < x then P' else P
    by_cases q : y < x
    · rw [if_pos q] at h ⊢; exact hB h
    · rw [if_neg q] at h ⊢; exact hA h
section BRW
variable {l : Launch} {p : Program} {e : Env} {R : Room} {s : State} {m : MethodId} {args : Array Value} {below : List Frame} {meth : Method} {c : Code} {H : Heap} {locs : List Loc} {cells slots : Nat} {Q : State → Prop} {cc : ByteArray} {pc : Nat} {ls : Array Slot} {rest : List Value}
theorem mBr_if (hx : p.tables.exec = Jvm.exec) (hb : c.code = cc) {cd : Jvm.ClassFile.Cond} {x : Int32} {off : Int} {tgt : Nat} (hdg : decode cc pc = .ok (.ifCond cd off, 3)) (ht : (pc : Int) + off = (tgt : Int)) (k : mBr cd x 0 (W p l e R s m args below meth c H locs cells slots Q (F0 m tgt ls rest)) (W p l e R s m args below meth c H locs cells slots Q (F0 m (pc + 3) ls rest))) : W p l e R s m args below meth c H locs cells slots Q (F0 m pc ls (.int x :: rest)) := by
  cases cd with
  | eq => exact lv_if_eq hx hb hdg ht (fun q => (if_pos q).mp k) (fun q => (if_neg q).mp k)
  | ne => exact lv_if_ne hx hb hdg ht (fun q => (if_neg q).mp k) (fun q => (if_pos q).mp k)
  | lt => exact lv_if_lt hx hb hdg ht (fun q => (if_pos q).mp k) (fun q => (if_neg q).mp k)
  | ge => exact lv_if_ge hx hb hdg ht (fun q => (if_neg (i32_le.mp q)).mp k) (fun q => (if_pos (Classical.not_not.mp (fun z => q (i32_le.mpr z)))).mp k)
  | gt => exact lv_if_gt hx hb hdg ht (fun q => (if_pos q).mp k) (fun q => (if_neg q).mp k)
  | le => exact lv_if_le hx hb hdg ht (fun q => (if_neg (i32_le.mp q)).mp k) (fun q => (if_pos (Classical.not_not.mp (fun z => q (i32_le.mpr z)))).mp k)
theorem mBr_ic (hx : p.tables.exec = Jvm.exec) (hb : c.code = cc) {cd : Jvm.ClassFile.Cond} {x y : Int32} {off : Int} {tgt : Nat} (hdg : decode cc pc = .ok (.if_icmp cd off, 3)) (ht : (pc : Int) + off = (tgt : Int)) (k : mBr cd x y (W p l e R s m args below meth c H locs cells slots Q (F0 m tgt ls rest)) (W p l e R s m args below meth c H locs cells slots Q (F0 m (pc + 3) ls rest))) : W p l e R s m args below meth c H locs cells slots Q (F0 m pc ls (.int y :: .int x :: rest)) := by
  cases cd with
  | eq => exact lv_icmp_eq hx hb hdg ht (fun q => (if_pos q).mp k) (fun q => (if_neg q).mp k)
  | ne => exact lv_icmp_ne hx hb hdg ht (fun q => (if_neg q).mp k) (fun q => (if_pos q).mp k)
  | lt => exact lv_icmp_lt hx hb hdg ht (fun q => (if_pos q).mp k) (fun q => (if_neg q).mp k)
  | ge => exact lv_icmp_ge hx hb hdg ht (fun q => (if_neg (i32_le.mp q)).mp k) (fun q => (if_pos (Classical.not_not.mp (fun z => q (i32_le.mpr z)))).mp k)
  | gt => exact lv_icmp_gt hx hb hdg ht (fun q => (if_pos q).mp k) (fun q => (if_neg q).mp k)
  | le => exact lv_icmp_le hx hb hdg ht (fun q => (if_neg (i32_le.mp q)).mp k) (fun q => (if_pos (Classical.not_not.mp (fun z => q (i32_le.mpr z)))).mp k)
end BRW
theorem mTgt_ok {pc : Nat} {off : Int} (h : decide (0 ≤ (pc : Int) + off) = true) : (pc : Int) + off = (mTgt pc off : Int) := (Int.toNat_of_nonneg (of_decide_eq_true h)).symm

section MAIN
variable {l : Launch} {dC : Nat → ClassId} {dI : Nat → Nat → Nat} {cy : Nat → ClassId} {base b : Nat} {adK : Nat → Nat} {S : Nat × (Nat → Int32)} {Sx : State → Prop}
/-- a state that goes on to another of the same method, with nothing new -/
theorem mGoes (P : Prop) (h : P) : P := h
set_option maxHeartbeats 4000000 in
set_option maxRecDepth 100000 in
theorem mSND (hSx : mSxOk base b adK Sx) (hstr : mStrOk l base b adK Sx) (hHelp : ∀ n, SND l dC dI cy base b adK S Sx n → HELP l dC dI cy base b adK S Sx n) : ∀ n, SND l dC dI cy base b adK S Sx n := by
  intro n
  induction n with
  | zero =>
    intro d mi pc Lo st w w' o hmi hlw hx
    cases hx
  | succ n ih =>
    intro d mi pc Lo st w w' o hmi hlw hx
    unfold ex at hx
    split at hx
    · cases hx
    · rename_i i len hcod
      obtain ⟨hdec, hfwd, hlen⟩ := gD_at hmi hcod
      split at hx
      · -- a plain instruction
        rename_i Lo1 st9 w1 hst
        obtain ⟨g1, g2⟩ := st1_mono hst
        obtain ⟨⟨g3, g4⟩, go⟩ := ih d mi (pc + len) Lo1 st9 w1 w' o hmi hlw hx
        refine ⟨⟨Nat.le_trans g1 g3, Nat.le_trans g2 g4⟩, fun p e R s m args below meth c H locs cells slots Q ls F X hc hz hret hthr => ?_⟩
        have hl9 : mLen i = len := by
          rcases hlen with h | h
          · exact h
          · exfalso
            cases i <;> simp only [mLen] at h <;> first | omega | (exact absurd hst (by simp [st1]))
        subst hl9
        refine mStep hSx hstr hdec F X hst (by omega) (by omega) (fun H1 locs1 ls1 cells1 slots1 e1 e2 X1 => ?_)
        refine go p e R s m args below meth c H1 locs1 cells1 slots1 Q ls1 F X1 (by omega) (by omega) ?_ ?_
        · intro v hv pc' ls' H' locs' cells' slots' hra q1 q2 q3 q4 q5 q6
          exact hret v hv pc' ls' H' locs' cells' slots' hra (by omega) (by omega) q3 q4 q5 q6
        · intro hv pc' x ls' st' w0 Lo0 H' locs' cells' slots' q1 q2 q3 q4 q5 q6 q7
          exact hthr hv pc' x ls' st' w0 Lo0 H' locs' cells' slots' q1 q2 q3 q4 (by omega) (by omega) q7
      · rename_i hst
        split at hx
        · -- goto
          rename_i off
          obtain ⟨g, go⟩ := ih d mi (mTgt pc off) Lo st w w' o hmi hlw hx
          refine ⟨g, fun p e R s m args below meth c H locs cells slots Q ls F X hc hz hret hthr => ?_⟩
          have hl9 : len = 3 := by rcases hlen with h | h <;> simp only [mLen] at h <;> omega
          subst hl9
          exact lv_goto F.1 F.2.1 hdec (mTgt_ok hfwd) (go p e R s m args below meth c H locs cells slots Q ls F X hc hz hret hthr)
        · -- ifCond
          rename_i cd off
          split at hx
          · rename_i x r
            have hl9 : len = 3 := by rcases hlen with h | h <;> simp only [mLen] at h <;> omega
            subst hl9
            have hmono : w.1.length ≤ w'.1.length ∧ wZ w ≤ wZ w' := by
              have := mBr_map (P := w.1.length ≤ w'.1.length ∧ wZ w ≤ wZ w') (P' := w.1.length ≤ w'.1.length ∧ wZ w ≤ wZ w') (fun h => (ih d mi (mTgt pc off) Lo r w w' o hmi hlw h).1) (fun h => (ih d mi (pc + 3) Lo r w w' o hmi hlw h).1) hx
              cases cd <;> (unfold mBr at this; dsimp only at this; split at this <;> exact this)
            refine ⟨hmono, fun p e R s m args below meth c H locs cells slots Q ls F X hc hz hret hthr => ?_⟩
            exact mBr_if F.1 F.2.1 hdec (mTgt_ok hfwd) (mBr_map (fun h => (ih d mi (mTgt pc off) Lo r w w' o hmi hlw h).2 p e R s m args below meth c H locs cells slots Q ls F X hc hz hret hthr) (fun h => (ih d mi (pc + 3) Lo r w w' o hmi hlw h).2 p e R s m args below meth c H locs cells slots Q ls F X hc hz hret hthr) hx)
          · cases hx
        · -- if_icmp
          rename_i cd off
          split at hx
          · rename_i y x r
            have hl9 : len = 3 := by rcases hlen with h | h <;> simp only [mLen] at h <;> omega
            subst hl9
            have hmono : w.1.length ≤ w'.1.length ∧ wZ w ≤ wZ w' := by
              have := mBr_map (P := w.1.length ≤ w'.1.length ∧ wZ w ≤ wZ w') (P' := w.1.length ≤ w'.1.length ∧ wZ w ≤ wZ w') (fun h => (ih d mi (mTgt pc off) Lo r w w' o hmi hlw h).1) (fun h => (ih d mi (pc + 3) Lo r w w' o hmi hlw h).1) hx
              cases cd <;> (unfold mBr at this; dsimp only at this; split at this <;> exact this)
            refine ⟨hmono, fun p e R s m args below meth c H locs cells slots Q ls F X hc hz hret hthr => ?_⟩
            exact mBr_ic F.1 F.2.1 hdec (mTgt_ok hfwd) (mBr_map (fun h => (ih d mi (mTgt pc off) Lo r w w' o hmi hlw h).2 p e R s m args below meth c H locs cells slots Q ls F X hc hz hret hthr) (fun h => (ih d mi (pc + 3) Lo r w w' o hmi hlw h).2 p e R s m args below meth c H locs cells slots Q ls F X hc hz hret hthr) hx)
          · cases hx
        · -- ifnonnull
          rename_i off
          have hl9 : len = 3 := by rcases hlen with h | h <;> simp only [mLen] at h <;> omega
          subst hl9
          split at hx
          · rename_i a r
            obtain ⟨g, go⟩ := ih d mi (mTgt pc off) Lo r w w' o hmi hlw hx
            refine ⟨g, fun p e R s m args below meth c H locs cells slots Q ls F X hc hz hret hthr => ?_⟩
            exact lv_ifnonnull F.1 F.2.1 hdec (mTgt_ok hfwd) (go p e R s m args below meth c H locs cells slots Q ls F X hc hz hret hthr)
          · rename_i r
            obtain ⟨g, go⟩ := ih d mi (pc + 3) Lo r w w' o hmi hlw hx
            refine ⟨g, fun p e R s m args below meth c H locs cells slots Q ls F X hc hz hret hthr => ?_⟩
            exact lv_ifnonnullN F.1 F.2.1 hdec (go p e R s m args below meth c H locs cells slots Q ls F X hc hz hret hthr)
          · cases hx
        · -- tableswitch
          rename_i df lo hi offs
          split at hx
          · rename_i x r
            have hf := (Bool.and_eq_true _ _ ▸ hfwd : _ ∧ _)
            split at hx
            · rename_i ho
              obtain ⟨g, go⟩ := ih d mi (mTgt pc df) Lo r w w' o hmi hlw hx
              refine ⟨g, fun p e R s m args below meth c H locs cells slots Q ls F X hc hz hret hthr => ?_⟩
              exact lv_tableOut F.1 F.2.1 hdec ho (mTgt_ok hf.1) (go p e R s m args below meth c H locs cells slots Q ls F X hc hz hret hthr)
            · rename_i ho
              split at hx
              · rename_i off hoff
                obtain ⟨g, go⟩ := ih d mi (mTgt pc off) Lo r w w' o hmi hlw hx
                refine ⟨g, fun p e R s m args below meth c H locs cells slots Q ls F X hc hz hret hthr => ?_⟩
                have hmem : off ∈ offs.toList := by
                  rw [← Array.getElem?_toList] at hoff
                  exact List.mem_of_getElem? hoff
                exact lv_tableIn F.1 F.2.1 hdec (fun z => ho (Or.inl z)) (fun z => ho (Or.inr z)) hoff (mTgt_ok (List.all_eq_true.mp hf.2 off hmem)) (go p e R s m args below meth c H locs cells slots Q ls F X hc hz hret hthr)
              · cases hx
          · cases hx
        · -- ireturn
          have hl9 : len = 1 := by rcases hlen with h | h <;> simp only [mLen] at h <;> omega
          subst hl9
          split at hx
          · rename_i v
            split at hx
            · rename_i hrt
              cases hx
              refine ⟨⟨Nat.le_refl _, Nat.le_refl _⟩, fun p e R s m args below meth c H locs cells slots Q ls F X hc hz hret hthr => ?_⟩
              exact hret _ rfl pc ls H locs cells slots (Or.inr (Or.inl ⟨v, rfl, hdec, hrt⟩)) rfl rfl X.2.2.1 X.2.2.2.1 X.2.1 X.1
            · cases hx
          · cases hx
        · -- lreturn
          have hl9 : len = 1 := by rcases hlen with h | h <;> simp only [mLen] at h <;> omega
          subst hl9
          split at hx
          · rename_i v
            split at hx
            · rename_i hrt
              cases hx
              refine ⟨⟨Nat.le_refl _, Nat.le_refl _⟩, fun p e R s m args below meth c H locs cells slots Q ls F X hc hz hret hthr => ?_⟩
              exact hret _ rfl pc ls H locs cells slots (Or.inr (Or.inr ⟨v, rfl, hdec, hrt⟩)) rfl rfl X.2.2.1 X.2.2.2.1 X.2.1 X.1
            · cases hx
          · cases hx
        · -- return
          have hl9 : len = 1 := by rcases hlen with h | h <;> simp only [mLen] at h <;> omega
          subst hl9
          split at hx
          · split at hx
            · rename_i hrt
              cases hx
              refine ⟨⟨Nat.le_refl _, Nat.le_refl _⟩, fun p e R s m args below meth c H locs cells slots Q ls F X hc hz hret hthr => ?_⟩
              exact hret _ rfl pc ls H locs cells slots (Or.inl ⟨rfl, hdec, hrt⟩) rfl rfl X.2.2.1 X.2.2.2.1 X.2.1 X.1
            · cases hx
          · cases hx
        · -- a throw
          rename_i x
          have hl9 : len = 3 := by rcases hlen with h | h <;> simp only [mLen] at h <;> omega
          subst hl9
          split at hx
          · rename_i hn
            cases hx
            refine ⟨⟨by show w.1.length ≤ (w.1 ++ _).length; rw [List.length_append]; omega, Nat.le_add_right _ _⟩, fun p e R s m args below meth c H locs cells slots Q ls F X hc hz hret hthr => ?_⟩
            exact hthr rfl pc x ls st w Lo H locs cells slots rfl hdec hn.1 hn.2 rfl rfl X
          · cases hx
        · -- invokevirtual
          rename_i x
          have hl9 : len = 3 := by rcases hlen with h | h <;> simp only [mLen] at h <;> omega
          subst hl9
          split at hx
          · rename_i mj nest hg
            split at hx
            · rename_i a as r d1 hpop
              split at hx
              · rename_i hcd
                obtain ⟨hk1, hmj, rfl, hsh, hr8, harg⟩ := hcd
                split at hx
                · rename_i o1 w1 hcal
                  have hj : mj < 253 := by rcases (gC_ok hg).2.1 with h | h <;> omega
                  have hlwj : gLw mj = false := mNotLaw hj (by rw [hk1]; decide)
                  obtain ⟨k1, k2, k3, k4, k5, k6, k7, k8, k9, k10⟩ := gM_ok hj hlwj
                  obtain ⟨⟨c1, c2⟩, -⟩ := ih d1 mj 0 _ [] w w1 _ hj (fun z => absurd (z.symm.trans hlwj) (by decide)) hcal
                  obtain ⟨⟨g3, g4⟩, go⟩ := ih (d1 + 1) mi (pc + 3) Lo (o1.toList ++ r) w1 w' o hmi hlw hx
                  refine ⟨⟨Nat.le_trans c1 g3, Nat.le_trans c2 g4⟩, fun p e R s m args below meth c H locs cells slots Q ls F X hc hz hret hthr => ?_⟩
                  obtain ⟨hpe, hpl⟩ := mPop_eq hpop
                  refine mW_sz (fun hsz => ?_)
                  have hH : H.size = base + w.1.length := by
                    have := mSize X.2.1 (Nat.le_trans F.2.2.2.2.2.2.2.2.2.1 X.2.2.2.1.1) X.2.2.1
                    have := X.1
                    omega
                  have hpre := mPre hSx F X hH ((Value.ref a :: as).map (mCv (mAd base b adK)))
                  have hM := mMet (as := .ref a :: as) hSx ih hj hlwj hcal harg
                  have hsel := k5 hk1
                  have hgc : gOwn.getD (gO mj) "" = (gc (gO mj)).1 := gOwnC _ hsel.2
                  rw [hpe]
                  refine mCall (mc := w1.1.length - w.1.length) (ms := wZ w1 - wZ w) (va_runV (C := (gMe mj).1.cls) (Ts := lwG) (own := gOwn.getD (gO mi) "") (index := x) (b := mAd base b adK a) (As := as.map (mCv (mAd base b adK))) (rest := r.map (mCv (mAd base b adK))) ⟨F.1, F.2.1, F.2.2.1, F.2.2.2.1, F.2.2.2.2.1⟩ hM (cwV (gMe mj).2.2.2.2.2.1 F.2.2.2.2.1 (gGoodA ?_ (gGood k1)) rfl rfl rfl ⟨rfl, k7⟩ ?_) ⟨hpre.1, ?_, hpre.2⟩ rfl ?_ X.2.2.2.2.1.1 ?_ ?_ hdec ?_) X.2.2.2.1 (fun H1 locs1 n1 p1 s1 => ?_)
                  · intro q hq
                    simp only [List.mem_cons, List.not_mem_nil, or_false] at hq
                    rcases hq with rfl | rfl | rfl | rfl
                    · rcases (gC_ok hg).1 with ⟨-, h1⟩ | ⟨h0, -⟩
                      · rw [mSpY (by omega)] at h1; exact h1
                      · cases h0
                    · exact lwG_in (k4 (by rw [hk1]; decide)) rfl
                    · exact lwG_in hsel.1 rfl
                    · exact lwG_in k2 rfl
                  · have := F.2.2.2.2.2.2.2.2.1
                    exact ⟨this.1, by show 8 + ((gMe mj).2.2.1 + 11) + 60 * d1 ≤ R.locals; omega⟩
                  · rw [k9, hgc]
                    exact va_recv F.2.2.2.2.2.1 X.2.2.1 (gOkAll _ hsel.2).2.2.2.2.2.2.2.2.2 (q0 := a) (by rw [mWs_get (mSh hsh).1, mCell_o hsh])
                  · rw [List.length_map]
                    simp only [List.length_cons] at hpl
                    omega
                  · simp only [List.reverse_cons, List.map_append, List.map_reverse, List.append_assoc, List.map_cons, List.map_nil, List.singleton_append]
                    rfl
                  · exact lv_room (by rw [← mCats (mAd base b adK)] at hr8; exact hr8)
                  · exact ⟨by omega, by omega⟩
                  · have hst9 : (o1.map (mCv (mAd base b adK))).toList ++ r.map (mCv (mAd base b adK)) = (o1.toList ++ r).map (mCv (mAd base b adK)) := by
                      cases o1 <;> simp
                    rw [hst9]
                    refine go p e R s m args below meth c H1 locs1 _ _ Q ls F ⟨by have := X.1; omega, n1, p1, s1, X.2.2.2.2.1, X.2.2.2.2.2⟩ (by omega) (by omega) ?_ ?_
                    · intro v hv pc' ls' H' locs' cells' slots' hra q1 q2 q3 q4 q5 q6
                      exact hret v hv pc' ls' H' locs' cells' slots' hra (by omega) (by omega) q3 q4 q5 q6
                    · intro hv pc' x ls' st' w0 Lo0 H' locs' cells' slots' q1 q2 q3 q4 q5 q6 q7
                      exact hthr hv pc' x ls' st' w0 Lo0 H' locs' cells' slots' q1 q2 q3 q4 (by omega) (by omega) q7
                · cases hx
              · cases hx
            · cases hx
          · cases hx
        · -- invokespecial
          rename_i x
          have hl9 : len = 3 := by rcases hlen with h | h <;> simp only [mLen] at h <;> omega
          subst hl9
          split at hx
          · rename_i mj nest hg
            split at hx
            · rename_i a as r d1 hpop
              split at hx
              · rename_i hcd
                obtain ⟨hk1, hmj, hr8, harg⟩ := hcd
                split at hx
                · rename_i w1 hcal
                  have hj : mj < 253 := by rcases (gC_ok hg).2.1 with h | h <;> omega
                  have hlwj : gLw mj = false := mNotLaw hj (by rw [hk1]; decide)
                  obtain ⟨k1, k2, k3, k4, k5, k6, k7, k8, k9, k10⟩ := gM_ok hj hlwj
                  obtain ⟨⟨c1, c2⟩, -⟩ := ih d1 mj 0 _ [] w w1 _ hj (fun z => absurd (z.symm.trans hlwj) (by decide)) hcal
                  obtain ⟨⟨g3, g4⟩, go⟩ := ih (d1 + 1) mi (pc + 3) Lo r w1 w' o hmi hlw hx
                  refine ⟨⟨Nat.le_trans c1 g3, Nat.le_trans c2 g4⟩, fun p e R s m args below meth c H locs cells slots Q ls F X hc hz hret hthr => ?_⟩
                  obtain ⟨hpe, hpl⟩ := mPop_eq hpop
                  refine mW_sz (fun hsz => ?_)
                  have hH : H.size = base + w.1.length := by
                    have := mSize X.2.1 (Nat.le_trans F.2.2.2.2.2.2.2.2.2.1 X.2.2.2.1.1) X.2.2.1
                    have := X.1
                    omega
                  have hpre := mPre hSx F X hH ((Value.ref a :: as).map (mCv (mAd base b adK)))
                  have hM := mMet (as := .ref a :: as) hSx ih hj hlwj hcal harg
                  rw [hpe]
                  have hlen9 : (as.map (mCv (mAd base b adK))).length = (gMe mj).2.2.2.2.2.1 := by
                    rw [List.length_map]
                    simp only [List.length_cons] at hpl
                    omega
                  have hst9 : (F0 m pc ls (((Value.ref a :: as).reverse ++ r).map (mCv (mAd base b adK)))).stack = (as.map (mCv (mAd base b adK))).reverse ++ .ref (mAd base b adK a) :: r.map (mCv (mAd base b adK)) := by
                    simp only [List.reverse_cons, List.map_append, List.map_reverse, List.append_assoc, List.map_cons, List.map_nil, List.singleton_append]
                    rfl
                  have hroom := F.2.2.2.2.2.2.2.2.1
                  have hR9 : (mRm d1 (w1.1.length - w.1.length) (wZ w1 - wZ w)).frames + 1 ≤ R.frames ∧ 8 + ((gMe mj).2.2.1 + 11) + (mRm d1 (w1.1.length - w.1.length) (wZ w1 - wZ w)).locals ≤ R.locals := ⟨hroom.1, by show 8 + ((gMe mj).2.2.1 + 11) + 60 * d1 ≤ R.locals; omega⟩
                  have hcode : (Cond.code (gMe mj).1 (gMe mj).2.1 (gMe mj).2.2.1 (gMe mj).2.2.2.1 :: lwG) = Cond.code (gMe mj).1 (gMe mj).2.1 (gMe mj).2.2.1 none :: lwG := by rw [(k6 hk1).2]
                  have hin9 := F.2.2.2.2.1 _ (lwG_in (k4 (by rw [hk1]; decide)) rfl)
                  have hini9 := F.2.2.2.2.1 _ (lwG_in k2 rfl)
                  have hrun : va_Run p l e R s m args below meth c H locs cells slots (w1.1.length - w.1.length) (wZ w1 - wZ w) (F0 m pc ls (((Value.ref a :: as).reverse ++ r).map (mCv (mAd base b adK)))) (r.map (mCv (mAd base b adK))) (mQc dC dI cy base b adK none w1 (Value.ref (mAd base b adK a) :: as.map (mCv (mAd base b adK))).toArray) (fun q => base ≤ q) := by
                    rcases (gC_ok hg).1 with ⟨h0, h1⟩ | ⟨h0, -⟩
                    · rw [mSpY (by omega)] at h1
                      exact va_runI (Ts := lwG) (own := gOwn.getD (gO mi) "") (index := x) (b := mAd base b adK a) (As := as.map (mCv (mAd base b adK))) (rest := r.map (mCv (mAd base b adK))) ⟨F.1, F.2.1, F.2.2.1, F.2.2.2.1, F.2.2.2.2.1⟩ hM (cwI (gMe mj).2.2.2.2.2.1 F.2.2.2.2.1 (gGood k1) hcode rfl rfl hini9 (F.2.2.2.2.1 _ h1) hin9 (k6 hk1).1 k7 hR9) hpre rfl hlen9 X.2.2.2.2.1.1 hst9 (lv_room (by rw [← mCats (mAd base b adK)] at hr8; exact hr8)) hdec ⟨by omega, by omega⟩
                    · subst h0
                      have hnw := hSx.2.1 s F.2.2.2.2.2.2.1 _ _ _ hg
                      rw [mSpY (by omega)] at hnw
                      exact va_runIN (Ts := lwG) (own := gOwn.getD (gO mi) "") (host := "HouseClaps") (index := x) (b := mAd base b adK a) (As := as.map (mCv (mAd base b adK))) (rest := r.map (mCv (mAd base b adK))) ⟨F.1, F.2.1, F.2.2.1, F.2.2.2.1, F.2.2.2.2.1⟩ hM ⟨va_cnB (gMe mj).2.2.2.2.2.1 F.2.2.2.2.1 (gGood k1) hcode rfl rfl hnw hini9 k7 hR9, (k6 hk1).1, hin9⟩ hpre rfl hlen9 X.2.2.2.2.1.1 hst9 (lv_room (by rw [← mCats (mAd base b adK)] at hr8; exact hr8)) hdec ⟨by omega, by omega⟩
                  refine mCall hrun X.2.2.2.1 (fun H1 locs1 n1 p1 s1 => ?_)
                  refine go p e R s m args below meth c H1 locs1 _ _ Q ls F ⟨by have := X.1; omega, n1, p1, s1, X.2.2.2.2.1, X.2.2.2.2.2⟩ (by omega) (by omega) ?_ ?_
                  · intro v hv pc' ls' H' locs' cells' slots' hra q1 q2 q3 q4 q5 q6
                    exact hret v hv pc' ls' H' locs' cells' slots' hra (by omega) (by omega) q3 q4 q5 q6
                  · intro hv pc' x ls' st' w0 Lo0 H' locs' cells' slots' q1 q2 q3 q4 q5 q6 q7
                    exact hthr hv pc' x ls' st' w0 Lo0 H' locs' cells' slots' q1 q2 q3 q4 (by omega) (by omega) q7
                · cases hx
              · cases hx
            · cases hx
          · cases hx
        · -- invokestatic
          rename_i x
          have hl9 : len = 3 := by rcases hlen with h | h <;> simp only [mLen] at h <;> omega
          subst hl9
          split at hx
          · rename_i mj nest hg
            split at hx
            · rename_i as r d1 hpop
              split at hx
              · rename_i hcd
                obtain ⟨hk1, hmj, hr8, harg⟩ := hcd
                have hj : mj < 253 := by rcases (gC_ok hg).2.1 with h | h <;> omega
                obtain ⟨hpe, hpl⟩ := mPop_eq hpop
                split at hx
                · -- a helper of the law
                  rename_i hhlp
                  have hnest : nest = 0 := gHelp0 _ (mLk_mem hg) hhlp.1 hhlp.2
                  subst hnest
                  split at hx
                  · rename_i x0 p0 p1 q d2
                    split at hx
                    · rename_i hq4 hx9
                      have hhj : mHelp mj < 253 ∧ gLw (mHelp mj) = false := by
                        rcases (by omega : mj = 246 ∨ mj = 247 ∨ mj = 248) with rfl | rfl | rfl <;> decide
                      split at hx
                      · rename_i v w1 hcal
                        obtain ⟨⟨c1, c2⟩, -⟩ := ih d2 (mHelp mj) 0 _ [] w w1 _ hhj.1 (fun z => absurd (z.symm.trans hhj.2) (by decide)) hcal
                        obtain ⟨⟨g3, g4⟩, go⟩ := ih (d2 + 1 + 1) mi (pc + 3) Lo (.int 0 :: r) (wsJ w1 (mSet (wJ w1) q 0 v.toInt64)) w' o hmi hlw hx
                        have g3 : w1.1.length ≤ w'.1.length := g3
                        have g4 : wZ w1 ≤ wZ w' := g4
                        refine ⟨⟨Nat.le_trans c1 g3, Nat.le_trans c2 g4⟩, fun p e R s m args below meth c H locs cells slots Q ls F X hc hz hret hthr => ?_⟩
                        rw [hpe]
                        refine hHelp n ih d2 mj x0 q p0 p1 w w1 _ _ 0 hhlp.1 hhlp.2 hq4 hx9 hcal (Or.inl ⟨v, rfl, rfl, rfl⟩) p e R s m args below meth c H locs cells slots Q ls (d2 + 1 + 1) mi pc x Lo r (Nat.le_refl _) F X (by omega) (by omega) hr8 hg hdec (fun H1 locs1 ls1 cells1 slots1 e1 e2 X1 => ?_)
                        refine go p e R s m args below meth c H1 locs1 cells1 slots1 Q ls1 F X1 (by show cells1 + w'.1.length ≤ R.cells + w1.1.length; omega) (by show slots1 + wZ w' ≤ R.slots + wZ w1; omega) ?_ ?_
                        · intro v hv pc' ls' H' locs' cells' slots' hra q1 q2 q3 q4 q5 q6
                          have q1 : cells' + w1.1.length = cells1 + w'.1.length := q1
                          have q2 : slots' + wZ w1 = slots1 + wZ w' := q2
                          exact hret v hv pc' ls' H' locs' cells' slots' hra (by omega) (by omega) q3 q4 q5 q6
                        · intro hv pc' x ls' st' w0 Lo0 H' locs' cells' slots' q1 q2 q3 q4 q5 q6 q7
                          have q5 : cells' + w1.1.length = cells1 + w0.1.length := q5
                          have q6 : slots' + wZ w1 = slots1 + wZ w0 := q6
                          exact hthr hv pc' x ls' st' w0 Lo0 H' locs' cells' slots' q1 q2 q3 q4 (by omega) (by omega) q7
                      · rename_i w1 hcal
                        obtain ⟨⟨c1, c2⟩, -⟩ := ih d2 (mHelp mj) 0 _ [] w w1 _ hhj.1 (fun z => absurd (z.symm.trans hhj.2) (by decide)) hcal
                        obtain ⟨⟨g3, g4⟩, go⟩ := ih (d2 + 1 + 1) mi (pc + 3) Lo (.int 1 :: r) w1 w' o hmi hlw hx
                        refine ⟨⟨Nat.le_trans c1 g3, Nat.le_trans c2 g4⟩, fun p e R s m args below meth c H locs cells slots Q ls F X hc hz hret hthr => ?_⟩
                        rw [hpe]
                        refine hHelp n ih d2 mj x0 q p0 p1 w w1 _ _ 1 hhlp.1 hhlp.2 hq4 hx9 hcal (Or.inr ⟨rfl, rfl, rfl⟩) p e R s m args below meth c H locs cells slots Q ls (d2 + 1 + 1) mi pc x Lo r (Nat.le_refl _) F X (by omega) (by omega) hr8 hg hdec (fun H1 locs1 ls1 cells1 slots1 e1 e2 X1 => ?_)
                        refine go p e R s m args below meth c H1 locs1 cells1 slots1 Q ls1 F X1 (by omega) (by omega) ?_ ?_
                        · intro v hv pc' ls' H' locs' cells' slots' hra q1 q2 q3 q4 q5 q6
                          exact hret v hv pc' ls' H' locs' cells' slots' hra (by omega) (by omega) q3 q4 q5 q6
                        · intro hv pc' x ls' st' w0 Lo0 H' locs' cells' slots' q1 q2 q3 q4 q5 q6 q7
                          exact hthr hv pc' x ls' st' w0 Lo0 H' locs' cells' slots' q1 q2 q3 q4 (by omega) (by omega) q7
                      · cases hx
                    · cases hx
                  · cases hx
                · rename_i hhlp
                  split at hx
                  · rename_i o1 w1 hcal
                    have hlwj : gLw mj = false := mNotLaw2 (gC_ok hg).2.2 hhlp
                    obtain ⟨k1, k2, k3, k4, k5, k6, k7, k8, k9, k10⟩ := gM_ok hj hlwj
                    obtain ⟨⟨c1, c2⟩, -⟩ := ih d1 mj 0 _ [] w w1 _ hj (fun z => absurd (z.symm.trans hlwj) (by decide)) hcal
                    obtain ⟨⟨g3, g4⟩, go⟩ := ih (d1 + 1) mi (pc + 3) Lo (o1.toList ++ r) w1 w' o hmi hlw hx
                    refine ⟨⟨Nat.le_trans c1 g3, Nat.le_trans c2 g4⟩, fun p e R s m args below meth c H locs cells slots Q ls F X hc hz hret hthr => ?_⟩
                    refine mW_sz (fun hsz => ?_)
                    have hH : H.size = base + w.1.length := by
                      have := mSize X.2.1 (Nat.le_trans F.2.2.2.2.2.2.2.2.2.1 X.2.2.2.1.1) X.2.2.1
                      have := X.1
                      omega
                    have hpre := mPre hSx F X hH (as.map (mCv (mAd base b adK)))
                    have hM := mMet (as := as) hSx ih hj hlwj hcal harg
                    rw [hpe]
                    have hlen9 : (as.map (mCv (mAd base b adK))).length = (gMe mj).2.2.2.2.2.1 := by
                      rw [List.length_map]
                      exact hpl
                    have hst9 : (F0 m pc ls ((as.reverse ++ r).map (mCv (mAd base b adK)))).stack = (as.map (mCv (mAd base b adK))).reverse ++ r.map (mCv (mAd base b adK)) := by
                      simp only [List.map_append, List.map_reverse]
                    have hroom := F.2.2.2.2.2.2.2.2.1
                    have hR9 : (mRm d1 (w1.1.length - w.1.length) (wZ w1 - wZ w)).frames + 1 ≤ R.frames ∧ 8 + ((gMe mj).2.2.1 + 11) + (mRm d1 (w1.1.length - w.1.length) (wZ w1 - wZ w)).locals ≤ R.locals := ⟨hroom.1, by show 8 + ((gMe mj).2.2.1 + 11) + 60 * d1 ≤ R.locals; omega⟩
                    have hst8 := F.2.2.2.2.1 _ (lwG_in (k3 hk1) rfl)
                    have hini9 := F.2.2.2.2.1 _ (lwG_in k2 rfl)
                    have hrun : va_Run p l e R s m args below meth c H locs cells slots (w1.1.length - w.1.length) (wZ w1 - wZ w) (F0 m pc ls ((as.reverse ++ r).map (mCv (mAd base b adK)))) (r.map (mCv (mAd base b adK))) (mQc dC dI cy base b adK o1 w1 (as.map (mCv (mAd base b adK))).toArray) (fun q => base ≤ q) := by
                      rcases (gC_ok hg).1 with ⟨h0, h1⟩ | ⟨h0, -⟩
                      · rw [mSpY (by omega)] at h1
                        refine va_runS (Ts := lwG) (own := gOwn.getD (gO mi) "") (index := x) (As := as.map (mCv (mAd base b adK))) (rest := r.map (mCv (mAd base b adK))) ⟨F.1, F.2.1, F.2.2.1, F.2.2.2.1, F.2.2.2.2.1⟩ hM (va_cwS (gMe mj).2.2.2.2.2.1 F.2.2.2.2.1 (gGoodA ?_ (gGood k1)) rfl rfl rfl k7 hR9) hpre rfl hlen9 X.2.2.2.2.1.1 hst9 (lv_room (by rw [← mCats (mAd base b adK)] at hr8; exact hr8)) hdec ⟨by omega, by omega⟩
                        intro q hq
                        simp only [List.mem_cons, List.not_mem_nil, or_false] at hq
                        rcases hq with rfl | rfl | rfl
                        · exact h1
                        · exact lwG_in (k3 hk1) rfl
                        · exact lwG_in k2 rfl
                      · subst h0
                        have hnw := hSx.2.1 s F.2.2.2.2.2.2.1 _ _ _ hg
                        rw [mSpY (by omega)] at hnw
                        exact va_runSN (Ts := lwG) (own := gOwn.getD (gO mi) "") (host := "HouseClaps") (index := x) (As := as.map (mCv (mAd base b adK))) (rest := r.map (mCv (mAd base b adK))) ⟨F.1, F.2.1, F.2.2.1, F.2.2.2.1, F.2.2.2.2.1⟩ hM ⟨va_cnB (gMe mj).2.2.2.2.2.1 F.2.2.2.2.1 (gGood k1) rfl rfl rfl hnw hini9 k7 hR9, hst8, trivial⟩ hpre rfl hlen9 X.2.2.2.2.1.1 hst9 (lv_room (by rw [← mCats (mAd base b adK)] at hr8; exact hr8)) hdec ⟨by omega, by omega⟩
                    refine mCall hrun X.2.2.2.1 (fun H1 locs1 n1 p1 s1 => ?_)
                    have hsto : (o1.map (mCv (mAd base b adK))).toList ++ r.map (mCv (mAd base b adK)) = (o1.toList ++ r).map (mCv (mAd base b adK)) := by
                      cases o1 <;> simp
                    rw [hsto]
                    refine go p e R s m args below meth c H1 locs1 _ _ Q ls F ⟨by have := X.1; omega, n1, p1, s1, X.2.2.2.2.1, X.2.2.2.2.2⟩ (by omega) (by omega) ?_ ?_
                    · intro v hv pc' ls' H' locs' cells' slots' hra q1 q2 q3 q4 q5 q6
                      exact hret v hv pc' ls' H' locs' cells' slots' hra (by omega) (by omega) q3 q4 q5 q6
                    · intro hv pc' x ls' st' w0 Lo0 H' locs' cells' slots' q1 q2 q3 q4 q5 q6 q7
                      exact hthr hv pc' x ls' st' w0 Lo0 H' locs' cells' slots' q1 q2 q3 q4 (by omega) (by omega) q7
                  · cases hx
              · cases hx
            · cases hx
          · cases hx
        · cases hx
end MAIN
end
section
/-! THE SMALL MACHINE, GOAL FIRST: wp: from here it comes to an end with Q -/
section WPS
variable {S : Nat × (Nat → Int32)}
set_option maxHeartbeats 1000000 in
theorem ex_up : ∀ (n d mi pc : Nat) (Lo : mL) (st : List Value) (w : mW) (r : mO × mW), ex S n d mi pc Lo st w = some r → ex S (n + 1) d mi pc Lo st w = some r := by
  intro n
  induction n with
  | zero =>
    intro d mi pc Lo st w r h
    cases h
  | succ n ih =>
    intro d mi pc Lo st w r h
    have brk : ∀ {c : Jvm.ClassFile.Cond} {x y : Int32} {A B A' B' : Option (mO × mW)}, (A = some r → A' = some r) → (B = some r → B' = some r) → mBr c x y A B = some r → mBr c x y A' B' = some r := by
      intro c x y A B A' B' hA hB h
      cases c <;> (unfold mBr at h ⊢; dsimp only at h ⊢; split at h <;> rename_i q <;> simp only [q, if_true, if_false] <;> first | exact hA h | exact hB h)
    unfold ex at h ⊢
    cases hc : cod mi pc with
    | none => rw [hc] at h; cases h
    | some q =>
      obtain ⟨i, len⟩ := q
      rw [hc] at h
      dsimp only at h ⊢
      cases hs : st1 S d mi i Lo st w with
      | some q =>
        obtain ⟨Lo1, st9, w1⟩ := q
        rw [hs] at h
        dsimp only at h ⊢
        exact ih _ _ _ _ _ _ _ h
      | none =>
        rw [hs] at h
        dsimp only at h ⊢
        split at h
        · exact ih _ _ _ _ _ _ _ h
        · split at h
          · exact brk (ih _ _ _ _ _ _ _) (ih _ _ _ _ _ _ _) h
          · cases h
        · split at h
          · exact brk (ih _ _ _ _ _ _ _) (ih _ _ _ _ _ _ _) h
          · cases h
        · split at h
          · exact ih _ _ _ _ _ _ _ h
          · exact ih _ _ _ _ _ _ _ h
          · cases h
        · split at h
          · split at h
            · rename_i q
              try dsimp only
              try rw [if_pos q]
              exact ih _ _ _ _ _ _ _ h
            · rename_i q
              try dsimp only
              try rw [if_neg q]
              split at h
              · rename_i off ho
                try rw [ho]
                exact ih _ _ _ _ _ _ _ h
              · cases h
          · cases h
        · exact h
        · exact h
        · exact h
        · exact h
        · split at h
          · rename_i hg
            try rw [hg]
            try dsimp only
            split at h
            · rename_i hp
              try rw [hp]
              try dsimp only
              split at h
              · rename_i q
                try rw [if_pos q]
                split at h
                · rename_i hcal
                  rw [ih _ _ _ _ _ _ _ hcal]
                  exact ih _ _ _ _ _ _ _ h
                · cases h
              · cases h
            · cases h
          · cases h
        · split at h
          · rename_i hg
            try rw [hg]
            try dsimp only
            split at h
            · rename_i hp
              try rw [hp]
              try dsimp only
              split at h
              · rename_i q
                try rw [if_pos q]
                split at h
                · rename_i hcal
                  rw [ih _ _ _ _ _ _ _ hcal]
                  exact ih _ _ _ _ _ _ _ h
                · cases h
              · cases h
            · cases h
          · cases h
        · split at h
          · rename_i hg
            try rw [hg]
            try dsimp only
            split at h
            · rename_i hp
              try rw [hp]
              try dsimp only
              split at h
              · rename_i q
                try rw [if_pos q]
                split at h
                · rename_i q2
                  try rw [if_pos q2]
                  split at h
                  · try dsimp only
                    split at h
                    · rename_i h4 h9
                      try rw [h4, h9]
                      try dsimp only
                      split at h
                      · rename_i hcal
                        rw [ih _ _ _ _ _ _ _ hcal]
                        exact ih _ _ _ _ _ _ _ h
                      · rename_i hcal
                        rw [ih _ _ _ _ _ _ _ hcal]
                        exact ih _ _ _ _ _ _ _ h
                      · cases h
                    · cases h
                  · cases h
                · rename_i q2
                  try rw [if_neg q2]
                  split at h
                  · rename_i hcal
                    rw [ih _ _ _ _ _ _ _ hcal]
                    exact ih _ _ _ _ _ _ _ h
                  · cases h
              · cases h
            · cases h
          · cases h
        · cases h
theorem ex_le {n k d mi pc : Nat} {Lo : mL} {st : List Value} {w : mW} {r : mO × mW} (h : ex S n d mi pc Lo st w = some r) (hk : n ≤ k) : ex S k d mi pc Lo st w = some r := by
  induction k with
  | zero =>
    have : n = 0 := by omega
    subst this
    exact h
  | succ k ih =>
    rcases Nat.lt_or_ge k n with hl | hl
    · have : n = k + 1 := by omega
      subst this
      exact h
    · exact ex_up _ _ _ _ _ _ _ _ (ih hl)
end WPS
section WPR
variable {S : Nat × (Nat → Int32)} {d mi pc : Nat} {Lo : mL} {st r : List Value} {w : mW} {Q : mO → mW → Prop}
def wp (S : Nat × (Nat → Int32)) (d mi pc : Nat) (Lo : mL) (st : List Value) (w : mW) (Q : mO → mW → Prop) : Prop := ∃ n o w', ex S n d mi pc Lo st w = some (o, w') ∧ Q o w'
/-- a call of method mj: its answer and the world behind it -/
def wc (S : Nat × (Nat → Int32)) (d mj : Nat) (as : List Value) (w : mW) (Q : mO → mW → Prop) : Prop := wp S d mj 0 (mIni (gMe mj).2.2.1 as) [] w Q
theorem wp_mono {Q' : mO → mW → Prop} (h : wp S d mi pc Lo st w Q) (hq : ∀ o w', Q o w' → Q' o w') : wp S d mi pc Lo st w Q' := by
  obtain ⟨n, o, w', h1, h2⟩ := h
  exact ⟨n, o, w', h1, hq o w' h2⟩
theorem wc_mono {mj : Nat} {as : List Value} {Q' : mO → mW → Prop} (h : wc S d mj as w Q) (hq : ∀ o w', Q o w' → Q' o w') : wc S d mj as w Q' := wp_mono h hq
theorem wp_st {i : Instr} {len : Nat} {Lo1 : mL} {st1' : List Value} {w1 : mW} (hc : cod mi pc = some (i, len)) (hs : st1 S d mi i Lo st w = some (Lo1, st1', w1)) (k : wp S d mi (pc + len) Lo1 st1' w1 Q) : wp S d mi pc Lo st w Q := by
  obtain ⟨n, o, w', h1, h2⟩ := k
  refine ⟨n + 1, o, w', ?_, h2⟩
  unfold ex
  rw [hc]
  dsimp only
  rw [hs]
  exact h1
theorem wp_goto {off : Int} {len : Nat} (hc : cod mi pc = some (.goto off, len)) (k : wp S d mi (mTgt pc off) Lo st w Q) : wp S d mi pc Lo st w Q := by
  obtain ⟨n, o, w', h1, h2⟩ := k
  refine ⟨n + 1, o, w', ?_, h2⟩
  unfold ex
  rw [hc]
  exact h1
theorem wp_br {c : Jvm.ClassFile.Cond} {x y : Int32} {A B : Option (mO × mW)} {T F : Prop} {r : mO × mW} (hT : T → A = some r) (hF : F → B = some r) (h : mBr c x y T F) : mBr c x y A B = some r := by
  cases c <;> (unfold mBr at h ⊢; dsimp only at h ⊢; split at h <;> rename_i q <;> simp only [q, if_true, if_false] <;> first | exact hT h | exact hF h)
/-- the two ways of a branch, as goals -/
def wBr (c : Jvm.ClassFile.Cond) (x y : Int32) (T F : Prop) : Prop := match c with
  | .eq => (x = y → T) ∧ (¬ x = y → F)
  | .ne => (x = y → F) ∧ (¬ x = y → T)
  | .lt => (x < y → T) ∧ (¬ x < y → F)
  | .ge => (x < y → F) ∧ (¬ x < y → T)
  | .gt => (y < x → T) ∧ (¬ y < x → F)
  | .le => (y < x → F) ∧ (¬ y < x → T)
theorem wp_b2 {c : Jvm.ClassFile.Cond} {x y : Int32} {A B : Nat → Option (mO × mW)} {T F : Prop} (hT : T → ∃ n o w', A n = some (o, w') ∧ Q o w') (hF : F → ∃ n o w', B n = some (o, w') ∧ Q o w') (h : wBr c x y T F) : ∃ n o w', mBr c x y (A n) (B n) = some (o, w') ∧ Q o w' := by
  cases c
  · by_cases q : x = y
    · obtain ⟨n, o, w', h1, h2⟩ := hT (h.1 q); exact ⟨n, o, w', (if_pos q).trans h1, h2⟩
    · obtain ⟨n, o, w', h1, h2⟩ := hF (h.2 q); exact ⟨n, o, w', (if_neg q).trans h1, h2⟩
  · by_cases q : x = y
    · obtain ⟨n, o, w', h1, h2⟩ := hF (h.1 q); exact ⟨n, o, w', (if_pos q).trans h1, h2⟩
    · obtain ⟨n, o, w', h1, h2⟩ := hT (h.2 q); exact ⟨n, o, w', (if_neg q).trans h1, h2⟩
  · by_cases q : x < y
    · obtain ⟨n, o, w', h1, h2⟩ := hT (h.1 q); exact ⟨n, o, w', (if_pos q).trans h1, h2⟩
    · obtain ⟨n, o, w', h1, h2⟩ := hF (h.2 q); exact ⟨n, o, w', (if_neg q).trans h1, h2⟩
  · by_cases q : x < y
    · obtain ⟨n, o, w', h1, h2⟩ := hF (h.1 q); exact ⟨n, o, w', (if_pos q).trans h1, h2⟩
    · obtain ⟨n, o, w', h1, h2⟩ := hT (h.2 q); exact ⟨n, o, w', (if_neg q).trans h1, h2⟩
  · by_cases q : y < x
    · obtain ⟨n, o, w', h1, h2⟩ := hT (h.1 q); exact ⟨n, o, w', (if_pos q).trans h1, h2⟩
    · obtain ⟨n, o, w', h1, h2⟩ := hF (h.2 q); exact ⟨n, o, w', (if_neg q).trans h1, h2⟩
  · by_cases q : y < x
    · obtain ⟨n, o, w', h1, h2⟩ := hF (h.1 q); exact ⟨n, o, w', (if_pos q).trans h1, h2⟩
    · obtain ⟨n, o, w', h1, h2⟩ := hT (h.2 q); exact ⟨n, o, w', (if_neg q).trans h1, h2⟩
theorem wp_if {c : Jvm.ClassFile.Cond} {off : Int} {len : Nat} {x : Int32} (hc : cod mi pc = some (.ifCond c off, len)) (k : wBr c x 0 (wp S d mi (mTgt pc off) Lo r w Q) (wp S d mi (pc + len) Lo r w Q)) : wp S d mi pc Lo (.int x :: r) w Q := by
  obtain ⟨n, o, w', h1, h2⟩ := wp_b2 (A := fun n => ex S n d mi (mTgt pc off) Lo r w) (B := fun n => ex S n d mi (pc + len) Lo r w) id id k
  refine ⟨n + 1, o, w', ?_, h2⟩
  unfold ex
  rw [hc]
  exact h1
theorem wp_ic {c : Jvm.ClassFile.Cond} {off : Int} {len : Nat} {x y : Int32} (hc : cod mi pc = some (.if_icmp c off, len)) (k : wBr c x y (wp S d mi (mTgt pc off) Lo r w Q) (wp S d mi (pc + len) Lo r w Q)) : wp S d mi pc Lo (.int y :: .int x :: r) w Q := by
  obtain ⟨n, o, w', h1, h2⟩ := wp_b2 (A := fun n => ex S n d mi (mTgt pc off) Lo r w) (B := fun n => ex S n d mi (pc + len) Lo r w) id id k
  refine ⟨n + 1, o, w', ?_, h2⟩
  unfold ex
  rw [hc]
  exact h1
theorem wp_nn {off : Int} {len a : Nat} (hc : cod mi pc = some (.ifnonnull off, len)) (k : wp S d mi (mTgt pc off) Lo r w Q) : wp S d mi pc Lo (.ref a :: r) w Q := by
  obtain ⟨n, o, w', h1, h2⟩ := k
  refine ⟨n + 1, o, w', ?_, h2⟩
  unfold ex
  rw [hc]
  exact h1
theorem wp_nl {off : Int} {len : Nat} (hc : cod mi pc = some (.ifnonnull off, len)) (k : wp S d mi (pc + len) Lo r w Q) : wp S d mi pc Lo (.null :: r) w Q := by
  obtain ⟨n, o, w', h1, h2⟩ := k
  refine ⟨n + 1, o, w', ?_, h2⟩
  unfold ex
  rw [hc]
  exact h1
theorem wp_tab {df lo hi : Int} {offs : Array Int} {len : Nat} {x : Int32} (hc : cod mi pc = some (.tableswitch df lo hi offs, len)) (k0 : x.toInt < lo ∨ hi < x.toInt → wp S d mi (mTgt pc df) Lo r w Q) (k1 : ∀ off, ¬ (x.toInt < lo ∨ hi < x.toInt) → offs[(x.toInt - lo).toNat]? = some off → wp S d mi (mTgt pc off) Lo r w Q) (k2 : ¬ (x.toInt < lo ∨ hi < x.toInt) → (x.toInt - lo).toNat < offs.size) : wp S d mi pc Lo (.int x :: r) w Q := by
  by_cases q : x.toInt < lo ∨ hi < x.toInt
  · obtain ⟨n, o, w', h1, h2⟩ := k0 q
    refine ⟨n + 1, o, w', ?_, h2⟩
    unfold ex
    rw [hc]
    show (if x.toInt < lo ∨ hi < x.toInt then _ else _) = _
    rw [if_pos q]
    exact h1
  · have hl := k2 q
    obtain ⟨n, o, w', h1, h2⟩ := k1 _ q (Array.getElem?_eq_getElem hl)
    refine ⟨n + 1, o, w', ?_, h2⟩
    unfold ex
    rw [hc]
    show (if x.toInt < lo ∨ hi < x.toInt then _ else _) = _
    rw [if_neg q, Array.getElem?_eq_getElem hl]
    exact h1
theorem wp_iret {len : Nat} {v : Int32} (hc : cod mi pc = some (.ireturn, len)) (hr : (gMe mi).2.2.2.1 = some .int ∨ ((gMe mi).2.2.2.1 = some .boolean ∧ (v = 0 ∨ v = 1))) (k : Q (some (some (.int v))) w) : wp S d mi pc Lo [.int v] w Q := by
  refine ⟨1, _, _, ?_, k⟩
  unfold ex
  rw [hc]
  exact if_pos hr
theorem wp_lret {len : Nat} {v : Int64} (hc : cod mi pc = some (.lreturn, len)) (hr : (gMe mi).2.2.2.1 = some .long) (k : Q (some (some (.long v))) w) : wp S d mi pc Lo [.long v] w Q := by
  refine ⟨1, _, _, ?_, k⟩
  unfold ex
  rw [hc]
  exact if_pos hr
theorem wp_vret {len : Nat} (hc : cod mi pc = some (.return_, len)) (hr : (gMe mi).2.2.2.1 = none) (k : Q (some none) w) : wp S d mi pc Lo [] w Q := by
  refine ⟨1, _, _, ?_, k⟩
  unfold ex
  rw [hc]
  exact if_pos hr
theorem wp_thr {x len : Nat} (hc : cod mi pc = some (.new x, len)) (hn : mLk gNew (gO mi) x = some 11) (hl : (wS w).length < mScr) (k : Q none (mNew w (0, 11) 6)) : wp S d mi pc Lo st w Q := by
  refine ⟨1, _, _, ?_, k⟩
  have hs : st1 S d mi (.new x) Lo st w = none := by
    show mNwo mi x Lo st w = none
    unfold mNwo
    rw [hn]
    exact if_pos (Or.inl (by decide))
  unfold ex
  rw [hc]
  dsimp only
  rw [hs]
  exact if_pos ⟨hn, hl⟩
/-- a call: the callee's wp, then what comes behind it -/
theorem wp_cv {x len mj a d1 : Nat} {as : List Value} (hc : cod mi pc = some (.invokevirtual x, len)) (hg : mLk gCall (gO mi) x = some (mj, 0)) (hp : mPop ((gMe mj).2.2.2.2.2.1 + 1) st = some (.ref a :: as, r)) (hk : (gMe mj).2.2.2.2.2.2 = 1 ∧ mj < 1000 ∧ mCat r ≤ 8 ∧ (mArg (.ref a :: as)).length ≤ (gMe mj).2.2.1) (hs : (wS w)[a]? = some (0, gO mj)) (k : wc S d1 mj (.ref a :: as) w (fun o w' => ∃ v, o = some v ∧ wp S (d1 + 1) mi (pc + len) Lo (v.toList ++ r) w' Q)) : wp S (d1 + 1) mi pc Lo st w Q := by
  obtain ⟨n1, o1, w1, h1, v, rfl, n2, o2, w2, h2, h3⟩ := k
  refine ⟨n1 + n2 + 1, o2, w2, ?_, h3⟩
  have hst : st1 S (d1 + 1) mi (.invokevirtual x) Lo st w = none := by
    show mIvt (d1 + 1) mi x Lo st w = none
    unfold mIvt
    rw [hg]
    have : mj ≠ 1002 ∧ mj ≠ 1003 := by omega
    split
    · rename_i h; cases h; exact absurd rfl this.1
    · rename_i h; cases h; exact absurd rfl this.2
    · rfl
  unfold ex
  rw [hc]
  dsimp only
  rw [hst, hg]
  dsimp only
  rw [hp]
  dsimp only
  rw [if_pos ⟨hk.1, hk.2.1, rfl, hs, hk.2.2.1, hk.2.2.2⟩, ex_le h1 (by omega : n1 ≤ n1 + n2)]
  exact ex_le h2 (by omega)
theorem wp_cs {x len mj nn d1 : Nat} {as : List Value} (hc : cod mi pc = some (.invokestatic x, len)) (hg : mLk gCall (gO mi) x = some (mj, nn)) (hp : mPop (gMe mj).2.2.2.2.2.1 st = some (as, r)) (hk : (gMe mj).2.2.2.2.2.2 = 0 ∧ mj < 1000 ∧ mCat r ≤ 8 ∧ (mArg as).length ≤ (gMe mj).2.2.1) (hh : ¬ (246 ≤ mj ∧ mj ≤ 248)) (k : wc S d1 mj as w (fun o w' => ∃ v, o = some v ∧ wp S (d1 + 1) mi (pc + len) Lo (v.toList ++ r) w' Q)) : wp S (d1 + 1) mi pc Lo st w Q := by
  obtain ⟨n1, o1, w1, h1, v, rfl, n2, o2, w2, h2, h3⟩ := k
  refine ⟨n1 + n2 + 1, o2, w2, ?_, h3⟩
  have hst : st1 S (d1 + 1) mi (.invokestatic x) Lo st w = none := by
    show mIst (d1 + 1) mi x Lo st w = none
    unfold mIst
    rw [hg]
    have : mj ≠ 1001 ∧ mj ≠ 1005 ∧ mj ≠ 1006 ∧ mj ≠ 1007 := by omega
    split
    · rename_i h; cases h; exact absurd rfl this.1
    · rename_i h; cases h; exact absurd rfl this.2.1
    · rename_i h; cases h; exact absurd rfl this.2.2.1
    · rename_i h; cases h; exact absurd rfl this.2.2.2
    · rfl
  unfold ex
  rw [hc]
  dsimp only
  rw [hst, hg]
  dsimp only
  rw [hp]
  dsimp only
  rw [if_pos hk, if_neg hh, ex_le h1 (by omega : n1 ≤ n1 + n2)]
  exact ex_le h2 (by omega)
theorem wp_ci {x len mj nn a d1 : Nat} {as : List Value} (hc : cod mi pc = some (.invokespecial x, len)) (hg : mLk gCall (gO mi) x = some (mj, nn)) (hp : mPop ((gMe mj).2.2.2.2.2.1 + 1) st = some (.ref a :: as, r)) (hk : (gMe mj).2.2.2.2.2.2 = 2 ∧ mj < 1000 ∧ mCat r ≤ 8 ∧ (mArg (.ref a :: as)).length ≤ (gMe mj).2.2.1) (k : wc S d1 mj (.ref a :: as) w (fun o w' => o = some none ∧ wp S (d1 + 1) mi (pc + len) Lo r w' Q)) : wp S (d1 + 1) mi pc Lo st w Q := by
  obtain ⟨n1, o1, w1, h1, rfl, n2, o2, w2, h2, h3⟩ := k
  refine ⟨n1 + n2 + 1, o2, w2, ?_, h3⟩
  have hst : st1 S (d1 + 1) mi (.invokespecial x) Lo st w = none := by
    show mIsp (d1 + 1) mi x Lo st w = none
    unfold mIsp
    split
    · rw [hg]
      refine if_neg (fun z => ?_)
      have : mj = 1000 := Option.some.inj z.1
      omega
    · rfl
  unfold ex
  rw [hc]
  dsimp only
  rw [hst, hg]
  dsimp only
  rw [hp]
  dsimp only
  rw [if_pos hk, ex_le h1 (by omega : n1 ≤ n1 + n2)]
  exact ex_le h2 (by omega)
/-- straight stretches at once -/
def stN (S : Nat × (Nat → Int32)) (d mi : Nat) (C : List (Nat × Instr × Nat)) : Nat → Nat → mL → List Value → mW → Option (Nat × mL × List Value × mW)
  | 0, pc, Lo, st, w => some (pc, Lo, st, w)
  | k + 1, pc, Lo, st, w => match mFind C pc with
    | some (i, len) => match st1 S d mi i Lo st w with
      | some (Lo1, st1, w1) => stN S d mi C k (pc + len) Lo1 st1 w1
      | none => match i with
        | .goto off => stN S d mi C k (mTgt pc off) Lo st w
        | _ => none
    | none => none
theorem wp_seg {C : List (Nat × Instr × Nat)} {pc1 : Nat} {Lo1 : mL} {st1' : List Value} {w1 : mW} (hC : gCs.getD mi [] = C) : ∀ (k : Nat) {pc : Nat} {Lo : mL} {st : List Value} {w : mW}, stN S d mi C k pc Lo st w = some (pc1, Lo1, st1', w1) → wp S d mi pc1 Lo1 st1' w1 Q → wp S d mi pc Lo st w Q := by
  intro k
  induction k with
  | zero =>
    intro pc Lo st w h kk
    cases h
    exact kk
  | succ k ih =>
    intro pc Lo st w h kk
    unfold stN at h
    split at h
    · rename_i i len hf
      have hc : cod mi pc = some (i, len) := by unfold cod; rw [hC]; exact hf
      split at h
      · rename_i Lo2 st2 w2 hs
        exact wp_st hc hs (ih h kk)
      · split at h
        · rename_i off hs
          exact wp_goto hc (ih h kk)
        · cases h
    · cases h
end WPR
end
section
/-! the 68 cells that the constructors make: 0 to 42 the class's, 43 to 66 the reference's, 67 the law's own array -/
def SHL : List (Nat × Nat) := [(0, 9), (0, 6), (1, 940), (0, 2), (0, 3), (1, 64), (4, 6), (1, 8), (1, 8), (1, 12), (1, 240), (4, 384), (1, 30), (1, 30), (1, 30), (0, 2), (0, 3), (1, 64), (4, 6), (1, 8), (1, 8), (1, 12), (1, 240), (4, 384), (1, 30), (1, 30), (1, 30), (5, 2), (0, 7), (0, 4), (0, 0), (0, 1), (4, 601), (4, 601), (4, 601), (4, 601), (0, 5), (0, 8), (1, 256), (1, 256), (1, 8), (0, 5), (0, 5), (0, 10), (2, 940), (1, 681), (1, 590), (1, 90), (1, 64), (1, 30), (3, 64), (4, 384), (4, 601), (4, 601), (4, 601), (4, 601), (1, 14), (3, 256), (1, 256), (4, 8), (1, 3), (4, 61), (4, 61), (1, 1362), (4, 2), (4, 2), (3, 2), (4, 1)]
def RRl : List (List (Option Nat)) := [[some 1, some 3, some 15, some 27, some 28, some 29, some 30, some 31, some 37], [some 2], [], [some 4, some 12, some 13, some 14], [none, none, none, none, none, none, some 5, some 6, some 7, some 8, some 9, some 10, some 11], [], [], [], [], [], [], [], [], [], [], [some 16, some 24, some 25, some 26], [none, none, none, none, none, none, some 17, some 18, some 19, some 20, some 21, some 22, some 23], [], [], [], [], [], [], [], [], [], [], [], [some 2], [some 28, some 16], [some 28, some 4, some 15], [some 3, some 36, some 32, some 33, some 34, some 35], [], [], [], [], [some 3, some 4], [some 3, some 2, some 41, some 42, some 38, some 39, some 40], [], [], [], [some 3, some 4], [some 3, some 4], [none, some 44, none, none, none, none, some 45, some 46, some 47, none, none, none, none, none, none, none, none, none, none, none, none, none, none, some 48, some 49, some 50, none, none, none, some 51, none, none, some 52, some 53, some 54, some 55, none, none, none, none, none, none, none, none, none, none, some 56, none, none, some 57, some 58, some 59, none, none, some 60, none, none, none, none, none, none, some 61, some 62, none, none, some 63, some 64, some 65, some 66], [], [], [], [], [], [], [], [], [], [], [], [], [], [], [], [], [], [], [], [], [], [], [], []]
abbrev rI0 : Type := Nat → Nat → Int32
abbrev rJ0 : Type := Nat → Nat → Int64
/-- what may come behind them: more cells, the two kept evenings, the counts -/
abbrev mX : Type := List (Nat × Nat) × (Nat → Option Nat) × Nat × Nat
def RRk (kf : Nat → Option Nat) (a : Nat) : Nat → Option Nat := match Nat.beq a 27 with
  | true => kf
  | false => fun k => (RRl.getD a []).getD k none
def wv (x : mX) (I : rI0) (J : rJ0) : mW := (SHL ++ x.1, I, J, RRk x.2.1, x.2.2)
def rI (x : mX) (Q : Int32 → rI0 → rJ0 → Prop) : mO → mW → Prop := fun o w => ∃ v I J, o = some (some (.int v)) ∧ w = wv x I J ∧ Q v I J
def rJ (x : mX) (Q : Int64 → rI0 → rJ0 → Prop) : mO → mW → Prop := fun o w => ∃ v I J, o = some (some (.long v)) ∧ w = wv x I J ∧ Q v I J
def rV (x : mX) (Q : rI0 → rJ0 → Prop) : mO → mW → Prop := fun o w => ∃ I J, o = some none ∧ w = wv x I J ∧ Q I J
section LAY
variable {S : Nat × (Nat → Int32)} {d mi pc : Nat} {Lo : mL} {st r : List Value} {x : mX} {I : rI0} {J : rJ0} {Q : mO → mW → Prop}
abbrev wcI (S : Nat × (Nat → Int32)) (d mj : Nat) (as : List Value) (x : mX) (I : rI0) (J : rJ0) (Q : Int32 → rI0 → rJ0 → Prop) : Prop := wc S d mj as (wv x I J) (rI x Q)
abbrev wcJ (S : Nat × (Nat → Int32)) (d mj : Nat) (as : List Value) (x : mX) (I : rI0) (J : rJ0) (Q : Int64 → rI0 → rJ0 → Prop) : Prop := wc S d mj as (wv x I J) (rJ x Q)
abbrev wcV (S : Nat × (Nat → Int32)) (d mj : Nat) (as : List Value) (x : mX) (I : rI0) (J : rJ0) (Q : rI0 → rJ0 → Prop) : Prop := wc S d mj as (wv x I J) (rV x Q)
theorem wcI_mono {mj : Nat} {as : List Value} {Q Q' : Int32 → rI0 → rJ0 → Prop} (h : wcI S d mj as x I J Q) (hq : ∀ v I J, Q v I J → Q' v I J) : wcI S d mj as x I J Q' := wc_mono h (fun _ _ ⟨v, I, J, h1, h2, h3⟩ => ⟨v, I, J, h1, h2, hq v I J h3⟩)
theorem wcJ_mono {mj : Nat} {as : List Value} {Q Q' : Int64 → rI0 → rJ0 → Prop} (h : wcJ S d mj as x I J Q) (hq : ∀ v I J, Q v I J → Q' v I J) : wcJ S d mj as x I J Q' := wc_mono h (fun _ _ ⟨v, I, J, h1, h2, h3⟩ => ⟨v, I, J, h1, h2, hq v I J h3⟩)
theorem wcV_mono {mj : Nat} {as : List Value} {Q Q' : rI0 → rJ0 → Prop} (h : wcV S d mj as x I J Q) (hq : ∀ I J, Q I J → Q' I J) : wcV S d mj as x I J Q' := wc_mono h (fun _ _ ⟨I, J, h1, h2, h3⟩ => ⟨I, J, h1, h2, hq I J h3⟩)
theorem wi_eq {off : Int} {tgt : Nat} {x1 : Int32} (hc : cod mi pc = some (.ifCond .eq off, 3)) (ht : mTgt pc off = tgt) (k1 : x1 = 0 → wp S d mi tgt Lo r (wv x I J) Q) (k2 : ¬ x1 = 0 → wp S d mi (pc + 3) Lo r (wv x I J) Q) : wp S d mi pc Lo (.int x1 :: r) (wv x I J) Q := wp_if hc (ht ▸ ⟨k1, k2⟩)
theorem wj_eq {off : Int} {tgt : Nat} {x1 y1 : Int32} (hc : cod mi pc = some (.if_icmp .eq off, 3)) (ht : mTgt pc off = tgt) (k1 : x1 = y1 → wp S d mi tgt Lo r (wv x I J) Q) (k2 : ¬ x1 = y1 → wp S d mi (pc + 3) Lo r (wv x I J) Q) : wp S d mi pc Lo (.int y1 :: .int x1 :: r) (wv x I J) Q := wp_ic hc (ht ▸ ⟨k1, k2⟩)
theorem wi_ne {off : Int} {tgt : Nat} {x1 : Int32} (hc : cod mi pc = some (.ifCond .ne off, 3)) (ht : mTgt pc off = tgt) (k1 : x1 = 0 → wp S d mi (pc + 3) Lo r (wv x I J) Q) (k2 : ¬ x1 = 0 → wp S d mi tgt Lo r (wv x I J) Q) : wp S d mi pc Lo (.int x1 :: r) (wv x I J) Q := wp_if hc (ht ▸ ⟨k1, k2⟩)
theorem wj_ne {off : Int} {tgt : Nat} {x1 y1 : Int32} (hc : cod mi pc = some (.if_icmp .ne off, 3)) (ht : mTgt pc off = tgt) (k1 : x1 = y1 → wp S d mi (pc + 3) Lo r (wv x I J) Q) (k2 : ¬ x1 = y1 → wp S d mi tgt Lo r (wv x I J) Q) : wp S d mi pc Lo (.int y1 :: .int x1 :: r) (wv x I J) Q := wp_ic hc (ht ▸ ⟨k1, k2⟩)
theorem wi_lt {off : Int} {tgt : Nat} {x1 : Int32} (hc : cod mi pc = some (.ifCond .lt off, 3)) (ht : mTgt pc off = tgt) (k1 : x1 < 0 → wp S d mi tgt Lo r (wv x I J) Q) (k2 : ¬ x1 < 0 → wp S d mi (pc + 3) Lo r (wv x I J) Q) : wp S d mi pc Lo (.int x1 :: r) (wv x I J) Q := wp_if hc (ht ▸ ⟨k1, k2⟩)
theorem wj_lt {off : Int} {tgt : Nat} {x1 y1 : Int32} (hc : cod mi pc = some (.if_icmp .lt off, 3)) (ht : mTgt pc off = tgt) (k1 : x1 < y1 → wp S d mi tgt Lo r (wv x I J) Q) (k2 : ¬ x1 < y1 → wp S d mi (pc + 3) Lo r (wv x I J) Q) : wp S d mi pc Lo (.int y1 :: .int x1 :: r) (wv x I J) Q := wp_ic hc (ht ▸ ⟨k1, k2⟩)
theorem wi_ge {off : Int} {tgt : Nat} {x1 : Int32} (hc : cod mi pc = some (.ifCond .ge off, 3)) (ht : mTgt pc off = tgt) (k1 : x1 < 0 → wp S d mi (pc + 3) Lo r (wv x I J) Q) (k2 : ¬ x1 < 0 → wp S d mi tgt Lo r (wv x I J) Q) : wp S d mi pc Lo (.int x1 :: r) (wv x I J) Q := wp_if hc (ht ▸ ⟨k1, k2⟩)
theorem wj_ge {off : Int} {tgt : Nat} {x1 y1 : Int32} (hc : cod mi pc = some (.if_icmp .ge off, 3)) (ht : mTgt pc off = tgt) (k1 : x1 < y1 → wp S d mi (pc + 3) Lo r (wv x I J) Q) (k2 : ¬ x1 < y1 → wp S d mi tgt Lo r (wv x I J) Q) : wp S d mi pc Lo (.int y1 :: .int x1 :: r) (wv x I J) Q := wp_ic hc (ht ▸ ⟨k1, k2⟩)
theorem wi_gt {off : Int} {tgt : Nat} {x1 : Int32} (hc : cod mi pc = some (.ifCond .gt off, 3)) (ht : mTgt pc off = tgt) (k1 : 0 < x1 → wp S d mi tgt Lo r (wv x I J) Q) (k2 : ¬ 0 < x1 → wp S d mi (pc + 3) Lo r (wv x I J) Q) : wp S d mi pc Lo (.int x1 :: r) (wv x I J) Q := wp_if hc (ht ▸ ⟨k1, k2⟩)
theorem wj_gt {off : Int} {tgt : Nat} {x1 y1 : Int32} (hc : cod mi pc = some (.if_icmp .gt off, 3)) (ht : mTgt pc off = tgt) (k1 : y1 < x1 → wp S d mi tgt Lo r (wv x I J) Q) (k2 : ¬ y1 < x1 → wp S d mi (pc + 3) Lo r (wv x I J) Q) : wp S d mi pc Lo (.int y1 :: .int x1 :: r) (wv x I J) Q := wp_ic hc (ht ▸ ⟨k1, k2⟩)
theorem wi_le {off : Int} {tgt : Nat} {x1 : Int32} (hc : cod mi pc = some (.ifCond .le off, 3)) (ht : mTgt pc off = tgt) (k1 : 0 < x1 → wp S d mi (pc + 3) Lo r (wv x I J) Q) (k2 : ¬ 0 < x1 → wp S d mi tgt Lo r (wv x I J) Q) : wp S d mi pc Lo (.int x1 :: r) (wv x I J) Q := wp_if hc (ht ▸ ⟨k1, k2⟩)
theorem wj_le {off : Int} {tgt : Nat} {x1 y1 : Int32} (hc : cod mi pc = some (.if_icmp .le off, 3)) (ht : mTgt pc off = tgt) (k1 : y1 < x1 → wp S d mi (pc + 3) Lo r (wv x I J) Q) (k2 : ¬ y1 < x1 → wp S d mi tgt Lo r (wv x I J) Q) : wp S d mi pc Lo (.int y1 :: .int x1 :: r) (wv x I J) Q := wp_ic hc (ht ▸ ⟨k1, k2⟩)
theorem wa_i {a n : Nat} {j : Int32} (hc : cod mi pc = some (.iaload, 1)) (hn : ¬ a = mScr) (hs : (SHL ++ x.1)[a]? = some (1, n)) (ho : ¬ mOut j n) (k : wp S d mi (pc + 1) Lo (.int (I a j.toNatClampNeg) :: r) (wv x I J) Q) : wp S d mi pc Lo (.int j :: .ref a :: r) (wv x I J) Q := by
  refine wp_st hc ?_ k
  show mIal S mi Lo (.int j :: .ref a :: r) (wv x I J) = _
  have hs : (wS (wv x I J))[a]? = some (1, n) := hs
  unfold mIal
  dsimp only
  rw [if_neg (fun z => hn z.1), hs]
  exact if_neg ho
theorem wa_l {a n : Nat} {j : Int32} (hc : cod mi pc = some (.laload, 1)) (hs : (SHL ++ x.1)[a]? = some (4, n)) (ho : ¬ mOut j n) (k : wp S d mi (pc + 1) Lo (.long (J a j.toNatClampNeg) :: r) (wv x I J) Q) : wp S d mi pc Lo (.int j :: .ref a :: r) (wv x I J) Q := by
  refine wp_st hc ?_ k
  show mLal Lo (.int j :: .ref a :: r) (wv x I J) = _
  have hs : (wS (wv x I J))[a]? = some (4, n) := hs
  unfold mLal
  dsimp only
  rw [hs]
  exact if_neg ho
theorem wa_b {a n : Nat} {j : Int32} (hc : cod mi pc = some (.baload, 1)) (hs : (SHL ++ x.1)[a]? = some (2, n) ∨ (SHL ++ x.1)[a]? = some (3, n)) (ho : ¬ mOut j n) (k : wp S d mi (pc + 1) Lo (.int (I a j.toNatClampNeg) :: r) (wv x I J) Q) : wp S d mi pc Lo (.int j :: .ref a :: r) (wv x I J) Q := by
  refine wp_st hc ?_ k
  show mBal Lo (.int j :: .ref a :: r) (wv x I J) = _
  have hs : (wS (wv x I J))[a]? = some (2, n) ∨ (wS (wv x I J))[a]? = some (3, n) := hs
  unfold mBal
  dsimp only
  rcases hs with hs | hs <;> (rw [hs]; exact if_neg ho)
theorem ws_i {a n : Nat} {j v : Int32} (hc : cod mi pc = some (.iastore, 1)) (hs : (SHL ++ x.1)[a]? = some (1, n)) (ho : ¬ mOut j n) (k : wp S d mi (pc + 1) Lo r (wv x (mSet I a j.toNatClampNeg v) J) Q) : wp S d mi pc Lo (.int v :: .int j :: .ref a :: r) (wv x I J) Q := by
  refine wp_st hc ?_ k
  show mIas Lo (.int v :: .int j :: .ref a :: r) (wv x I J) = _
  have hs : (wS (wv x I J))[a]? = some (1, n) := hs
  unfold mIas
  dsimp only
  rw [hs]
  exact if_neg ho
theorem ws_b {a n : Nat} {j v : Int32} (hc : cod mi pc = some (.bastore, 1)) (hs : (SHL ++ x.1)[a]? = some (2, n)) (ho : ¬ mOut j n) (k : wp S d mi (pc + 1) Lo r (wv x (mSet I a j.toNatClampNeg (vp_nar .byte v)) J) Q) : wp S d mi pc Lo (.int v :: .int j :: .ref a :: r) (wv x I J) Q := by
  refine wp_st hc ?_ k
  show mBas Lo (.int v :: .int j :: .ref a :: r) (wv x I J) = _
  have hs : (wS (wv x I J))[a]? = some (2, n) := hs
  unfold mBas
  dsimp only
  rw [hs]
  exact if_neg ho
theorem ws_z {a n : Nat} {j v : Int32} (hc : cod mi pc = some (.bastore, 1)) (hs : (SHL ++ x.1)[a]? = some (3, n)) (ho : ¬ mOut j n) (k : wp S d mi (pc + 1) Lo r (wv x (mSet I a j.toNatClampNeg (vp_nar .boolean v)) J) Q) : wp S d mi pc Lo (.int v :: .int j :: .ref a :: r) (wv x I J) Q := by
  refine wp_st hc ?_ k
  show mBas Lo (.int v :: .int j :: .ref a :: r) (wv x I J) = _
  have hs : (wS (wv x I J))[a]? = some (3, n) := hs
  unfold mBas
  dsimp only
  rw [hs]
  exact if_neg ho
theorem ws_l {a n : Nat} {j : Int32} {v : Int64} (hc : cod mi pc = some (.lastore, 1)) (hs : (SHL ++ x.1)[a]? = some (4, n)) (ho : ¬ mOut j n) (k : wp S d mi (pc + 1) Lo r (wv x I (mSet J a j.toNatClampNeg v)) Q) : wp S d mi pc Lo (.long v :: .int j :: .ref a :: r) (wv x I J) Q := by
  refine wp_st hc ?_ k
  show mLas Lo (.long v :: .int j :: .ref a :: r) (wv x I J) = _
  have hs : (wS (wv x I J))[a]? = some (4, n) := hs
  unfold mLas
  dsimp only
  rw [hs]
  exact if_neg ho
theorem wd_i {y1 x1 : Int32} (hc : cod mi pc = some (.idiv, 1)) (hy : ¬ y1 = 0) (k : wp S d mi (pc + 1) Lo (.int (x1 / y1) :: r) (wv x I J) Q) : wp S d mi pc Lo (.int y1 :: .int x1 :: r) (wv x I J) Q := by
  refine wp_st hc ?_ k
  show mDef .idiv Lo (.int y1 :: .int x1 :: r) (wv x I J) = _
  unfold mDef mBin
  dsimp only
  rw [if_neg hy]
theorem wd_r {y1 x1 : Int32} (hc : cod mi pc = some (.irem, 1)) (hy : ¬ y1 = 0) (k : wp S d mi (pc + 1) Lo (.int (x1 - x1 / y1 * y1) :: r) (wv x I J) Q) : wp S d mi pc Lo (.int y1 :: .int x1 :: r) (wv x I J) Q := by
  refine wp_st hc ?_ k
  show mDef .irem Lo (.int y1 :: .int x1 :: r) (wv x I J) = _
  unfold mDef mBin
  dsimp only
  rw [if_neg hy]
theorem wd_l {y1 x1 : Int64} (hc : cod mi pc = some (.ldiv, 1)) (hy : ¬ y1 = 0) (k : wp S d mi (pc + 1) Lo (.long (x1 / y1) :: r) (wv x I J) Q) : wp S d mi pc Lo (.long y1 :: .long x1 :: r) (wv x I J) Q := by
  refine wp_st hc ?_ k
  show mDef .ldiv Lo (.long y1 :: .long x1 :: r) (wv x I J) = _
  unfold mDef mBiL
  dsimp only
  rw [if_neg hy]
theorem wd_m {y1 x1 : Int64} (hc : cod mi pc = some (.lrem, 1)) (hy : ¬ y1 = 0) (k : wp S d mi (pc + 1) Lo (.long (x1 - x1 / y1 * y1) :: r) (wv x I J) Q) : wp S d mi pc Lo (.long y1 :: .long x1 :: r) (wv x I J) Q := by
  refine wp_st hc ?_ k
  show mDef .lrem Lo (.long y1 :: .long x1 :: r) (wv x I J) = _
  unfold mDef mBiL
  dsimp only
  rw [if_neg hy]
theorem wz_put {k1 a ci k : Nat} {v : Int32} (hc : cod mi pc = some (.putfield k1, 3)) (hf : mLk gF (gO mi) k1 = some (ci, k)) (hs : (SHL ++ x.1)[a]? = some (0, ci)) (hk : gFi ci k = false ∧ gKi ci k = 3) (hv : v = 0 ∨ v = 1) (kk : wp S d mi (pc + 3) Lo r (wv x (mSet I a k v) J) Q) : wp S d mi pc Lo (.int v :: .ref a :: r) (wv x I J) Q := by
  refine wp_st hc ?_ kk
  show mPut mi k1 Lo (.int v :: .ref a :: r) (wv x I J) = _
  have hs : (wS (wv x I J))[a]? = some (0, ci) := hs
  unfold mPut
  dsimp only
  rw [hf]
  exact if_pos ⟨hs, hk.1, Or.inr ⟨hk.2, hv⟩⟩
theorem we_i {v : Int32} {Q : Int32 → rI0 → rJ0 → Prop} (hc : cod mi pc = some (.ireturn, 1)) (hr : (gMe mi).2.2.2.1 = some .int) (k : Q v I J) : wp S d mi pc Lo [.int v] (wv x I J) (rI x Q) := wp_iret hc (Or.inl hr) ⟨v, I, J, rfl, rfl, k⟩
theorem we_z {v : Int32} {Q : Int32 → rI0 → rJ0 → Prop} (hc : cod mi pc = some (.ireturn, 1)) (hr : (gMe mi).2.2.2.1 = some .boolean) (hv : v = 0 ∨ v = 1) (k : Q v I J) : wp S d mi pc Lo [.int v] (wv x I J) (rI x Q) := wp_iret hc (Or.inr ⟨hr, hv⟩) ⟨v, I, J, rfl, rfl, k⟩
theorem we_l {v : Int64} {Q : Int64 → rI0 → rJ0 → Prop} (hc : cod mi pc = some (.lreturn, 1)) (hr : (gMe mi).2.2.2.1 = some .long) (k : Q v I J) : wp S d mi pc Lo [.long v] (wv x I J) (rJ x Q) := wp_lret hc hr ⟨v, I, J, rfl, rfl, k⟩
theorem we_v {Q : rI0 → rJ0 → Prop} (hc : cod mi pc = some (.return_, 1)) (hr : (gMe mi).2.2.2.1 = none) (k : Q I J) : wp S d mi pc Lo [] (wv x I J) (rV x Q) := wp_vret hc hr ⟨I, J, rfl, rfl, k⟩
theorem cv_I {k1 mj a : Nat} {as : List Value} (hc : cod mi pc = some (.invokevirtual k1, 3)) (hg : mLk gCall (gO mi) k1 = some (mj, 0)) (hp : mPop ((gMe mj).2.2.2.2.2.1 + 1) st = some (.ref a :: as, r)) (hk : (gMe mj).2.2.2.2.2.2 = 1 ∧ mj < 1000 ∧ mCat r ≤ 8 ∧ (mArg (.ref a :: as)).length ≤ (gMe mj).2.2.1) (hs : (SHL ++ x.1)[a]? = some (0, gO mj)) (k : wcI S d mj (.ref a :: as) x I J (fun v I J => wp S (d + 1) mi (pc + 3) Lo (.int v :: r) (wv x I J) Q)) : wp S (d + 1) mi pc Lo st (wv x I J) Q := wp_cv hc hg hp hk hs (wc_mono k (fun _ _ ⟨v, I1, J1, h1, h2, h3⟩ => ⟨some (.int v), h1, h2 ▸ h3⟩))
theorem cs_I {k1 mj nn : Nat} {as : List Value} (hc : cod mi pc = some (.invokestatic k1, 3)) (hg : mLk gCall (gO mi) k1 = some (mj, nn)) (hp : mPop (gMe mj).2.2.2.2.2.1 st = some (as, r)) (hk : (gMe mj).2.2.2.2.2.2 = 0 ∧ mj < 1000 ∧ mCat r ≤ 8 ∧ (mArg as).length ≤ (gMe mj).2.2.1) (hh : ¬ (246 ≤ mj ∧ mj ≤ 248)) (k : wcI S d mj as x I J (fun v I J => wp S (d + 1) mi (pc + 3) Lo (.int v :: r) (wv x I J) Q)) : wp S (d + 1) mi pc Lo st (wv x I J) Q := wp_cs hc hg hp hk hh (wc_mono k (fun _ _ ⟨v, I1, J1, h1, h2, h3⟩ => ⟨some (.int v), h1, h2 ▸ h3⟩))
theorem cv_J {k1 mj a : Nat} {as : List Value} (hc : cod mi pc = some (.invokevirtual k1, 3)) (hg : mLk gCall (gO mi) k1 = some (mj, 0)) (hp : mPop ((gMe mj).2.2.2.2.2.1 + 1) st = some (.ref a :: as, r)) (hk : (gMe mj).2.2.2.2.2.2 = 1 ∧ mj < 1000 ∧ mCat r ≤ 8 ∧ (mArg (.ref a :: as)).length ≤ (gMe mj).2.2.1) (hs : (SHL ++ x.1)[a]? = some (0, gO mj)) (k : wcJ S d mj (.ref a :: as) x I J (fun v I J => wp S (d + 1) mi (pc + 3) Lo (.long v :: r) (wv x I J) Q)) : wp S (d + 1) mi pc Lo st (wv x I J) Q := wp_cv hc hg hp hk hs (wc_mono k (fun _ _ ⟨v, I1, J1, h1, h2, h3⟩ => ⟨some (.long v), h1, h2 ▸ h3⟩))
theorem cs_J {k1 mj nn : Nat} {as : List Value} (hc : cod mi pc = some (.invokestatic k1, 3)) (hg : mLk gCall (gO mi) k1 = some (mj, nn)) (hp : mPop (gMe mj).2.2.2.2.2.1 st = some (as, r)) (hk : (gMe mj).2.2.2.2.2.2 = 0 ∧ mj < 1000 ∧ mCat r ≤ 8 ∧ (mArg as).length ≤ (gMe mj).2.2.1) (hh : ¬ (246 ≤ mj ∧ mj ≤ 248)) (k : wcJ S d mj as x I J (fun v I J => wp S (d + 1) mi (pc + 3) Lo (.long v :: r) (wv x I J) Q)) : wp S (d + 1) mi pc Lo st (wv x I J) Q := wp_cs hc hg hp hk hh (wc_mono k (fun _ _ ⟨v, I1, J1, h1, h2, h3⟩ => ⟨some (.long v), h1, h2 ▸ h3⟩))
theorem cv_V {k1 mj a : Nat} {as : List Value} (hc : cod mi pc = some (.invokevirtual k1, 3)) (hg : mLk gCall (gO mi) k1 = some (mj, 0)) (hp : mPop ((gMe mj).2.2.2.2.2.1 + 1) st = some (.ref a :: as, r)) (hk : (gMe mj).2.2.2.2.2.2 = 1 ∧ mj < 1000 ∧ mCat r ≤ 8 ∧ (mArg (.ref a :: as)).length ≤ (gMe mj).2.2.1) (hs : (SHL ++ x.1)[a]? = some (0, gO mj)) (k : wcV S d mj (.ref a :: as) x I J (fun I J => wp S (d + 1) mi (pc + 3) Lo (r) (wv x I J) Q)) : wp S (d + 1) mi pc Lo st (wv x I J) Q := wp_cv hc hg hp hk hs (wc_mono k (fun _ _ ⟨I1, J1, h1, h2, h3⟩ => ⟨none, h1, h2 ▸ h3⟩))
theorem cs_V {k1 mj nn : Nat} {as : List Value} (hc : cod mi pc = some (.invokestatic k1, 3)) (hg : mLk gCall (gO mi) k1 = some (mj, nn)) (hp : mPop (gMe mj).2.2.2.2.2.1 st = some (as, r)) (hk : (gMe mj).2.2.2.2.2.2 = 0 ∧ mj < 1000 ∧ mCat r ≤ 8 ∧ (mArg as).length ≤ (gMe mj).2.2.1) (hh : ¬ (246 ≤ mj ∧ mj ≤ 248)) (k : wcV S d mj as x I J (fun I J => wp S (d + 1) mi (pc + 3) Lo (r) (wv x I J) Q)) : wp S (d + 1) mi pc Lo st (wv x I J) Q := wp_cs hc hg hp hk hh (wc_mono k (fun _ _ ⟨I1, J1, h1, h2, h3⟩ => ⟨none, h1, h2 ▸ h3⟩))
theorem wm_2 {k1 sp nn : Nat} {x1 y1 : Int32} {f : Int32 → Int32 → Int32} (hc : cod mi pc = some (.invokestatic k1, 3)) (hg : mLk gCall (gO mi) k1 = some (sp, nn)) (hf : (sp = 1005 ∧ f = fun x y => if x < y then y else x) ∨ (sp = 1006 ∧ f = fun x y => if y < x then y else x)) (hr : mCat r ≤ 8) (k : wp S (d + 1) mi (pc + 3) Lo (.int (f x1 y1) :: r) (wv x I J) Q) : wp S (d + 1) mi pc Lo (.int y1 :: .int x1 :: r) (wv x I J) Q := by
  refine wp_st hc ?_ k
  show mIst (d + 1) mi k1 Lo (.int y1 :: .int x1 :: r) (wv x I J) = _
  unfold mIst
  rw [hg]
  rcases hf with ⟨rfl, rfl⟩ | ⟨rfl, rfl⟩ <;> exact if_pos ⟨Nat.succ_pos d, hr⟩
theorem wm_1 {k1 nn : Nat} {x1 : Int32} (hc : cod mi pc = some (.invokestatic k1, 3)) (hg : mLk gCall (gO mi) k1 = some (1007, nn)) (hr : mCat r ≤ 8) (k : wp S (d + 1) mi (pc + 3) Lo (.int (if 0 ≤ x1 then x1 else 0 - x1) :: r) (wv x I J) Q) : wp S (d + 1) mi pc Lo (.int x1 :: r) (wv x I J) Q := by
  refine wp_st hc ?_ k
  show mIst (d + 1) mi k1 Lo (.int x1 :: r) (wv x I J) = _
  unfold mIst
  rw [hg]
  exact if_pos ⟨Nat.succ_pos d, hr⟩
end LAY
end
section
/-! a frame that knows less of its locals comes to the same end -/
def mSub : mL → mL → Prop
  | [], [] => True
  | none :: a, _ :: b => mSub a b
  | some v :: a, some u :: b => v = u ∧ mSub a b
  | _, _ => False
theorem mSub_len : ∀ {a b : mL}, mSub a b → a.length = b.length
  | [], [], _ => rfl
  | none :: a, _ :: b, h => by
    have := mSub_len (a := a) (b := b) h
    simp [this]
  | some v :: a, some u :: b, h => by
    have := mSub_len (a := a) (b := b) h.2
    simp [this]
  | some v :: a, none :: b, h => by cases h
  | [], _ :: b, h => by cases h
  | none :: a, [], h => by cases h
  | some v :: a, [], h => by cases h
theorem mSub_get : ∀ {a b : mL} {k : Nat} {v : Value}, mSub a b → a.getD k none = some v → b.getD k none = some v
  | [], [], k, v, _, h => h
  | none :: a, _ :: b, 0, v, _, h => by cases h
  | none :: a, _ :: b, k + 1, v, hs, h => by
    have := mSub_get (a := a) (b := b) (k := k) hs (by simpa using h)
    simpa using this
  | some u :: a, some u' :: b, 0, v, hs, h => by
    have h : some u = some v := h
    have h1 : u = u' := hs.1
    rw [← h1]
    exact h
  | some u :: a, some u' :: b, k + 1, v, hs, h => by
    have := mSub_get (a := a) (b := b) (k := k) hs.2 (by simpa using h)
    simpa using this
  | some v :: a, none :: b, _, _, h, _ => by cases h
  | [], _ :: b, _, _, h, _ => by cases h
  | none :: a, [], _, _, h, _ => by cases h
  | some v :: a, [], _, _, h, _ => by cases h
theorem mSub_of : ∀ {a b : mL}, a.length = b.length → (∀ k v, a.getD k none = some v → b.getD k none = some v) → mSub a b
  | [], [], _, _ => trivial
  | [], _ :: b, h, _ => by cases h
  | _ :: a, [], h, _ => by cases h
  | none :: a, y :: b, hl, h => by
    show mSub a b
    exact mSub_of (by simpa using hl) (fun k v hv => by have := h (k + 1) v (by simpa using hv); simpa using this)
  | some u :: a, y :: b, hl, h => by
    have h0 : (y :: b).getD 0 none = some u := h 0 u rfl
    have h0 : y = some u := h0
    subst h0
    exact ⟨rfl, mSub_of (by simpa using hl) (fun k v hv => by have := h (k + 1) v (by simpa using hv); simpa using this)⟩
theorem mClr_get2 {Lo : mL} {i j : Nat} {v : Value} (h : Lo.getD j none = some v) (hn : ¬ (j + 1 = i ∧ v.category = 2)) : (mClr Lo i).getD j none = some v := by
  cases i with
  | zero => exact h
  | succ i =>
    show (mClr2 (Lo.getD i none) Lo i).getD j none = some v
    cases hu : Lo.getD i none with
    | none => exact h
    | some u =>
      have two : u.category = 2 → (Lo.set i none).getD j none = some v := by
        intro hc
        rw [mGetD_set]
        by_cases hj : j = i
        · exfalso
          subst hj
          rw [hu] at h
          cases h
          exact hn ⟨rfl, hc⟩
        · rw [if_neg hj]; exact h
      cases u with
      | long x => exact two rfl
      | double x => exact two rfl
      | _ => exact h
theorem mSub_st1 {a b a1 : mL} {k : Nat} {v : Value} (hs : mSub a b) (h : mSt1 a k v = some a1) : ∃ b1, mSt1 b k v = some b1 ∧ mSub a1 b1 := by
  have hl := mSub_len hs
  unfold mSt1 at h ⊢
  split at h
  · rename_i hk
    cases h
    rw [if_pos (by omega)]
    refine ⟨_, rfl, mSub_of (by rw [List.length_set, List.length_set, mClr_len, mClr_len, hl]) (fun j u hu => ?_)⟩
    rw [mGetD_set, mClr_len] at hu ⊢
    by_cases hj : j = k
    · rw [if_pos hj] at hu ⊢
      rw [← hl]
      exact hu
    · rw [if_neg hj] at hu ⊢
      obtain ⟨h1, h2⟩ := mClr_get hu
      exact mClr_get2 (mSub_get hs h1) h2
  · cases h
theorem mSub_st2 {a b a1 : mL} {k : Nat} {v : Value} (hs : mSub a b) (h : mSt2 a k v = some a1) : ∃ b1, mSt2 b k v = some b1 ∧ mSub a1 b1 := by
  have hl := mSub_len hs
  unfold mSt2 at h ⊢
  split at h
  · rename_i hk
    cases h
    rw [if_pos (by omega)]
    refine ⟨_, rfl, mSub_of (by simp only [List.length_set, mClr_len, hl]) (fun j u hu => ?_)⟩
    rw [mGetD_set, List.length_set, mClr_len] at hu ⊢
    by_cases hj1 : j = k + 1
    · rw [if_pos hj1] at hu
      split at hu <;> cases hu
    · rw [if_neg hj1] at hu ⊢
      rw [mGetD_set, mClr_len] at hu ⊢
      by_cases hj : j = k
      · rw [if_pos hj] at hu ⊢
        rw [← hl]
        exact hu
      · rw [if_neg hj] at hu ⊢
        obtain ⟨h1, h2⟩ := mClr_get hu
        exact mClr_get2 (mSub_get hs h1) h2
  · cases h
/-- locals that are only carried along -/
theorem mCar {f : mL → mT} {Lo Lb Lo1 : mL} {st1' : List Value} {w1 : mW} (hf : ∀ (L M : mL) (q : mL × List Value × mW), f L = some q → q.1 = L ∧ f M = some (M, q.2)) (hs : mSub Lo Lb) (h : f Lo = some (Lo1, st1', w1)) : ∃ Lb1, f Lb = some (Lb1, st1', w1) ∧ mSub Lo1 Lb1 := by
  obtain ⟨h1, h2⟩ := hf Lo Lb _ h
  have h1 : Lo1 = Lo := h1
  subst h1
  exact ⟨Lb, h2, hs⟩
theorem mUnI_car {f : Int32 → Value} {L M : mL} {st : List Value} {w : mW} {q : mL × List Value × mW} (h : mUnI f L st w = some q) : q.1 = L ∧ mUnI f M st w = some (M, q.2) := by
  unfold mUnI at h ⊢
  repeat' (first | (split at h) )
  all_goals (first | (cases h; done) | (cases h; exact ⟨rfl, rfl⟩) | (cases h; simp_all) | simp_all)
theorem mUnL_car {f : Int64 → Value} {L M : mL} {st : List Value} {w : mW} {q : mL × List Value × mW} (h : mUnL f L st w = some q) : q.1 = L ∧ mUnL f M st w = some (M, q.2) := by
  unfold mUnL at h ⊢
  repeat' (first | (split at h) )
  all_goals (first | (cases h; done) | (cases h; exact ⟨rfl, rfl⟩) | (cases h; simp_all) | simp_all)
theorem mCmp_car  {L M : mL} {st : List Value} {w : mW} {q : mL × List Value × mW} (h : mCmp L st w = some q) : q.1 = L ∧ mCmp M st w = some (M, q.2) := by
  unfold mCmp at h ⊢
  repeat' (first | (split at h) )
  all_goals (first | (cases h; done) | (cases h; exact ⟨rfl, rfl⟩) | (cases h; simp_all) | simp_all)
theorem mDup_car  {L M : mL} {st : List Value} {w : mW} {q : mL × List Value × mW} (h : mDup L st w = some q) : q.1 = L ∧ mDup M st w = some (M, q.2) := by
  unfold mDup at h ⊢
  repeat' (first | (split at h) )
  all_goals (first | (cases h; done) | (cases h; exact ⟨rfl, rfl⟩) | (cases h; simp_all) | simp_all)
theorem mPp_car  {L M : mL} {st : List Value} {w : mW} {q : mL × List Value × mW} (h : mPp L st w = some q) : q.1 = L ∧ mPp M st w = some (M, q.2) := by
  unfold mPp at h ⊢
  repeat' (first | (split at h) )
  all_goals (first | (cases h; done) | (cases h; exact ⟨rfl, rfl⟩) | (cases h; simp_all) | simp_all)
theorem mDup2_car  {L M : mL} {st : List Value} {w : mW} {q : mL × List Value × mW} (h : mDup2 L st w = some q) : q.1 = L ∧ mDup2 M st w = some (M, q.2) := by
  unfold mDup2 at h ⊢
  repeat' (first | (split at h) )
  all_goals (first | (cases h; done) | (cases h; exact ⟨rfl, rfl⟩) | (cases h; simp_all) | simp_all)
theorem mLdc_car {mi k : Nat} {L M : mL} {st : List Value} {w : mW} {q : mL × List Value × mW} (h : mLdc mi k L st w = some q) : q.1 = L ∧ mLdc mi k M st w = some (M, q.2) := by
  unfold mLdc at h ⊢
  repeat' (first | (split at h) )
  all_goals (first | (cases h; done) | (cases h; exact ⟨rfl, rfl⟩) | (cases h; simp_all) | simp_all)
theorem mLdcW_car {mi k : Nat} {L M : mL} {st : List Value} {w : mW} {q : mL × List Value × mW} (h : mLdcW mi k L st w = some q) : q.1 = L ∧ mLdcW mi k M st w = some (M, q.2) := by
  unfold mLdcW at h ⊢
  repeat' (first | (split at h) )
  all_goals (first | (cases h; done) | (cases h; exact ⟨rfl, rfl⟩) | (cases h; simp_all) | simp_all)
theorem mLdc2_car {mi k : Nat} {L M : mL} {st : List Value} {w : mW} {q : mL × List Value × mW} (h : mLdc2 mi k L st w = some q) : q.1 = L ∧ mLdc2 mi k M st w = some (M, q.2) := by
  unfold mLdc2 at h ⊢
  repeat' (first | (split at h) )
  all_goals (first | (cases h; done) | (cases h; exact ⟨rfl, rfl⟩) | (cases h; simp_all) | simp_all)
theorem mGet_car {mi k : Nat} {L M : mL} {st : List Value} {w : mW} {q : mL × List Value × mW} (h : mGet mi k L st w = some q) : q.1 = L ∧ mGet mi k M st w = some (M, q.2) := by
  unfold mGet at h ⊢
  repeat' (first | (split at h) )
  all_goals (first | (cases h; done) | (cases h; exact ⟨rfl, rfl⟩) | (cases h; simp_all) | simp_all)
theorem mPut_car {mi k : Nat} {L M : mL} {st : List Value} {w : mW} {q : mL × List Value × mW} (h : mPut mi k L st w = some q) : q.1 = L ∧ mPut mi k M st w = some (M, q.2) := by
  unfold mPut at h ⊢
  repeat' (first | (split at h) )
  all_goals (first | (cases h; done) | (cases h; exact ⟨rfl, rfl⟩) | (cases h; simp_all) | simp_all)
theorem mBal_car  {L M : mL} {st : List Value} {w : mW} {q : mL × List Value × mW} (h : mBal L st w = some q) : q.1 = L ∧ mBal M st w = some (M, q.2) := by
  unfold mBal at h ⊢
  repeat' (first | (split at h) )
  all_goals (first | (cases h; done) | (cases h; exact ⟨rfl, rfl⟩) | (cases h; simp_all) | simp_all)
theorem mLal_car  {L M : mL} {st : List Value} {w : mW} {q : mL × List Value × mW} (h : mLal L st w = some q) : q.1 = L ∧ mLal M st w = some (M, q.2) := by
  unfold mLal at h ⊢
  repeat' (first | (split at h) )
  all_goals (first | (cases h; done) | (cases h; exact ⟨rfl, rfl⟩) | (cases h; simp_all) | simp_all)
theorem mAal_car  {L M : mL} {st : List Value} {w : mW} {q : mL × List Value × mW} (h : mAal L st w = some q) : q.1 = L ∧ mAal M st w = some (M, q.2) := by
  unfold mAal at h ⊢
  repeat' (first | (split at h) )
  all_goals (first | (cases h; done) | (cases h; exact ⟨rfl, rfl⟩) | (cases h; simp_all) | simp_all)
theorem mIas_car  {L M : mL} {st : List Value} {w : mW} {q : mL × List Value × mW} (h : mIas L st w = some q) : q.1 = L ∧ mIas M st w = some (M, q.2) := by
  unfold mIas at h ⊢
  repeat' (first | (split at h) )
  all_goals (first | (cases h; done) | (cases h; exact ⟨rfl, rfl⟩) | (cases h; simp_all) | simp_all)
theorem mBas_car  {L M : mL} {st : List Value} {w : mW} {q : mL × List Value × mW} (h : mBas L st w = some q) : q.1 = L ∧ mBas M st w = some (M, q.2) := by
  unfold mBas at h ⊢
  repeat' (first | (split at h) )
  all_goals (first | (cases h; done) | (cases h; exact ⟨rfl, rfl⟩) | (cases h; simp_all) | simp_all)
theorem mLas_car  {L M : mL} {st : List Value} {w : mW} {q : mL × List Value × mW} (h : mLas L st w = some q) : q.1 = L ∧ mLas M st w = some (M, q.2) := by
  unfold mLas at h ⊢
  repeat' (first | (split at h) )
  all_goals (first | (cases h; done) | (cases h; exact ⟨rfl, rfl⟩) | (cases h; simp_all) | simp_all)
theorem mAas_car  {L M : mL} {st : List Value} {w : mW} {q : mL × List Value × mW} (h : mAas L st w = some q) : q.1 = L ∧ mAas M st w = some (M, q.2) := by
  unfold mAas at h ⊢
  repeat' (first | (split at h) )
  all_goals (first | (cases h; done) | (cases h; exact ⟨rfl, rfl⟩) | (cases h; simp_all) | simp_all)
theorem mAln_car {S : Nat × (Nat → Int32)} {mi : Nat} {L M : mL} {st : List Value} {w : mW} {q : mL × List Value × mW} (h : mAln S mi L st w = some q) : q.1 = L ∧ mAln S mi M st w = some (M, q.2) := by
  unfold mAln at h ⊢
  repeat' (first | (split at h) )
  all_goals (first | (cases h; done) | (cases h; exact ⟨rfl, rfl⟩) | (cases h; simp_all) | simp_all)
theorem mNwa_car {t : ArrayType} {L M : mL} {st : List Value} {w : mW} {q : mL × List Value × mW} (h : mNwa t L st w = some q) : q.1 = L ∧ mNwa t M st w = some (M, q.2) := by
  unfold mNwa at h ⊢
  repeat' (first | (split at h) )
  all_goals (first | (cases h; done) | (cases h; exact ⟨rfl, rfl⟩) | (cases h; simp_all) | simp_all)
theorem mNwq_car {mi k : Nat} {L M : mL} {st : List Value} {w : mW} {q : mL × List Value × mW} (h : mNwq mi k L st w = some q) : q.1 = L ∧ mNwq mi k M st w = some (M, q.2) := by
  unfold mNwq at h ⊢
  repeat' (first | (split at h) )
  all_goals (first | (cases h; done) | (cases h; exact ⟨rfl, rfl⟩) | (cases h; simp_all) | simp_all)
theorem mNwo_car {mi k : Nat} {L M : mL} {st : List Value} {w : mW} {q : mL × List Value × mW} (h : mNwo mi k L st w = some q) : q.1 = L ∧ mNwo mi k M st w = some (M, q.2) := by
  unfold mNwo at h ⊢
  repeat' (first | (split at h) )
  all_goals (first | (cases h; done) | (cases h; exact ⟨rfl, rfl⟩) | (cases h; simp_all) | simp_all)
theorem mIsp_car {d mi k : Nat} {L M : mL} {st : List Value} {w : mW} {q : mL × List Value × mW} (h : mIsp d mi k L st w = some q) : q.1 = L ∧ mIsp d mi k M st w = some (M, q.2) := by
  unfold mIsp at h ⊢
  repeat' (first | (split at h) )
  all_goals (first | (cases h; done) | (cases h; exact ⟨rfl, rfl⟩) | (cases h; simp_all) | simp_all)
theorem mDef_car {i : Instr} {L M : mL} {st : List Value} {w : mW} {q : mL × List Value × mW} (h : mDef i L st w = some q) : q.1 = L ∧ mDef i M st w = some (M, q.2) := by
  unfold mDef at h ⊢
  repeat' (first | (split at h) )
  all_goals (first | (cases h; done) | (cases h; exact ⟨rfl, rfl⟩) | (cases h; simp_all) | simp_all)
theorem mAcp_car {d : Nat} {L M : mL} {st : List Value} {w : mW} {q : mL × List Value × mW} (h : mAcp d L st w = some q) : q.1 = L ∧ mAcp d M st w = some (M, q.2) := by
  unfold mAcp mCpy at h ⊢
  repeat' (first | (split at h) )
  all_goals (first | (cases h; done) | (cases h; exact ⟨rfl, rfl⟩) | (cases h; simp_all) | simp_all)
theorem mM2_car {f : Int32 → Int32 → Int32} {d : Nat} {L M : mL} {st : List Value} {w : mW} {q : mL × List Value × mW} (h : mM2 f d L st w = some q) : q.1 = L ∧ mM2 f d M st w = some (M, q.2) := by
  unfold mM2 at h ⊢
  repeat' (first | (split at h) )
  all_goals (first | (cases h; done) | (cases h; exact ⟨rfl, rfl⟩) | (cases h; simp_all) | simp_all)
theorem mM1_car {f : Int32 → Int32} {d : Nat} {L M : mL} {st : List Value} {w : mW} {q : mL × List Value × mW} (h : mM1 f d L st w = some q) : q.1 = L ∧ mM1 f d M st w = some (M, q.2) := by
  unfold mM1 at h ⊢
  repeat' (first | (split at h) )
  all_goals (first | (cases h; done) | (cases h; exact ⟨rfl, rfl⟩) | (cases h; simp_all) | simp_all)
theorem mSln_car {d : Nat} {L M : mL} {st : List Value} {w : mW} {q : mL × List Value × mW} (h : mSln d L st w = some q) : q.1 = L ∧ mSln d M st w = some (M, q.2) := by
  unfold mSln at h ⊢
  repeat' (first | (split at h) )
  all_goals (first | (cases h; done) | (cases h; exact ⟨rfl, rfl⟩) | (cases h; simp_all) | simp_all)
theorem mIal_car {S : Nat × (Nat → Int32)} {mi : Nat} {L M : mL} {st : List Value} {w : mW} {q : mL × List Value × mW} (h : mIal S mi L st w = some q) : q.1 = L ∧ mIal S mi M st w = some (M, q.2) := by
  unfold mIal at h ⊢
  split at h
  · rename_i j a r
    try dsimp only
    by_cases z : a = mScr ∧ mi = 0
    · rw [if_pos z] at h ⊢
      split at h
      · cases h
      · rename_i ho; cases h; rw [if_neg ho]; exact ⟨rfl, rfl⟩
    · rw [if_neg z] at h ⊢
      split at h
      · rename_i n hn
        split at h
        · cases h
        · rename_i ho; cases h; refine ⟨rfl, ?_⟩; first | exact if_neg ho | (rw [hn]; exact if_neg ho)
      · cases h
  · cases h
theorem mSch_car {d : Nat} {L M : mL} {st : List Value} {w : mW} {q : mL × List Value × mW} (h : mSch d L st w = some q) : q.1 = L ∧ mSch d M st w = some (M, q.2) := by
  obtain ⟨j, a, r, rfl, h1, h2, h3, h4, h5, hq⟩ := mSch_inv h
  cases hq
  refine ⟨rfl, ?_⟩
  unfold mSch
  exact if_pos ⟨h1, h2, h3, h4, h5⟩
theorem mIst_car {d mi k : Nat} {L M : mL} {st : List Value} {w : mW} {q : mL × List Value × mW} (h : mIst d mi k L st w = some q) : q.1 = L ∧ mIst d mi k M st w = some (M, q.2) := by
  unfold mIst at h ⊢
  split at h
  · exact mAcp_car h
  · exact mM2_car h
  · exact mM2_car h
  · exact mM1_car h
  · cases h
theorem mIvt_car {d mi k : Nat} {L M : mL} {st : List Value} {w : mW} {q : mL × List Value × mW} (h : mIvt d mi k L st w = some q) : q.1 = L ∧ mIvt d mi k M st w = some (M, q.2) := by
  unfold mIvt at h ⊢
  split at h
  · exact mSln_car h
  · exact mSch_car h
  · cases h
theorem st1_sub {S : Nat × (Nat → Int32)} {d mi : Nat} {i : Instr} {Lo Lb Lo1 : mL} {st st1' : List Value} {w w1 : mW} (hs : mSub Lo Lb) (h : st1 S d mi i Lo st w = some (Lo1, st1', w1)) : ∃ Lb1, st1 S d mi i Lb st w = some (Lb1, st1', w1) ∧ mSub Lo1 Lb1 := by
  cases i
  case iconst n =>
    cases h
    exact ⟨_, rfl, hs⟩
  case bipush n =>
    cases h
    exact ⟨_, rfl, hs⟩
  case sipush n =>
    cases h
    exact ⟨_, rfl, hs⟩
  case lconst n =>
    cases h
    exact ⟨_, rfl, hs⟩
  case iload k =>
    obtain ⟨x, hv, hq⟩ := mLdI_inv h
    cases hq
    refine ⟨Lb, ?_, hs⟩
    show mLdI Lb k _ _ = _
    unfold mLdI
    rw [mSub_get hs hv]
  case iload_n k =>
    obtain ⟨x, hv, hq⟩ := mLdI_inv h
    cases hq
    refine ⟨Lb, ?_, hs⟩
    show mLdI Lb k _ _ = _
    unfold mLdI
    rw [mSub_get hs hv]
  case lload k =>
    obtain ⟨x, hv, hq⟩ := mLdL_inv h
    cases hq
    refine ⟨Lb, ?_, hs⟩
    show mLdL Lb k _ _ = _
    unfold mLdL
    rw [mSub_get hs hv]
  case lload_n k =>
    obtain ⟨x, hv, hq⟩ := mLdL_inv h
    cases hq
    refine ⟨Lb, ?_, hs⟩
    show mLdL Lb k _ _ = _
    unfold mLdL
    rw [mSub_get hs hv]
  case aload k =>
    obtain ⟨x, hv, hq⟩ := mLdA_inv h
    cases hq
    refine ⟨Lb, ?_, hs⟩
    show mLdA Lb k _ _ = _
    unfold mLdA
    rw [mSub_get hs hv]
  case aload_n k =>
    obtain ⟨x, hv, hq⟩ := mLdA_inv h
    cases hq
    refine ⟨Lb, ?_, hs⟩
    show mLdA Lb k _ _ = _
    unfold mLdA
    rw [mSub_get hs hv]
  case istore k =>
    obtain ⟨x, r, L, rfl, hL, hq⟩ := mStI_inv h
    cases hq
    obtain ⟨b1, h1, h2⟩ := mSub_st1 hs hL
    refine ⟨b1, ?_, h2⟩
    show mStI Lb k (.int x :: st1') w = _
    unfold mStI
    dsimp only
    rw [h1]
  case istore_n k =>
    obtain ⟨x, r, L, rfl, hL, hq⟩ := mStI_inv h
    cases hq
    obtain ⟨b1, h1, h2⟩ := mSub_st1 hs hL
    refine ⟨b1, ?_, h2⟩
    show mStI Lb k (.int x :: st1') w = _
    unfold mStI
    dsimp only
    rw [h1]
  case lstore k =>
    obtain ⟨x, r, L, rfl, hL, hq⟩ := mStL_inv h
    cases hq
    obtain ⟨b1, h1, h2⟩ := mSub_st2 hs hL
    refine ⟨b1, ?_, h2⟩
    show mStL Lb k (.long x :: st1') w = _
    unfold mStL
    dsimp only
    rw [h1]
  case lstore_n k =>
    obtain ⟨x, r, L, rfl, hL, hq⟩ := mStL_inv h
    cases hq
    obtain ⟨b1, h1, h2⟩ := mSub_st2 hs hL
    refine ⟨b1, ?_, h2⟩
    show mStL Lb k (.long x :: st1') w = _
    unfold mStL
    dsimp only
    rw [h1]
  case astore k =>
    obtain ⟨x, r, L, rfl, hL, hq⟩ := mStA_inv h
    cases hq
    obtain ⟨b1, h1, h2⟩ := mSub_st1 hs hL
    refine ⟨b1, ?_, h2⟩
    show mStA Lb k (.ref x :: st1') w = _
    unfold mStA
    dsimp only
    rw [h1]
  case astore_n k =>
    obtain ⟨x, r, L, rfl, hL, hq⟩ := mStA_inv h
    cases hq
    obtain ⟨b1, h1, h2⟩ := mSub_st1 hs hL
    refine ⟨b1, ?_, h2⟩
    show mStA Lb k (.ref x :: st1') w = _
    unfold mStA
    dsimp only
    rw [h1]
  case iinc k n =>
    obtain ⟨x, L, hv, hL, hq⟩ := mInc_inv h
    cases hq
    obtain ⟨b1, h1, h2⟩ := mSub_st1 hs hL
    refine ⟨b1, ?_, h2⟩
    show mInc Lb k n _ _ = _
    unfold mInc
    rw [mSub_get hs hv]
    dsimp only
    rw [h1]
  case ineg =>
    exact mCar (f := fun L => st1 S d mi (.ineg) L st w) (by intro L M q; exact mUnI_car) hs h
  case lneg =>
    exact mCar (f := fun L => st1 S d mi (.lneg) L st w) (by intro L M q; exact mUnL_car) hs h
  case i2l =>
    exact mCar (f := fun L => st1 S d mi (.i2l) L st w) (by intro L M q; exact mUnI_car) hs h
  case l2i =>
    exact mCar (f := fun L => st1 S d mi (.l2i) L st w) (by intro L M q; exact mUnL_car) hs h
  case i2b =>
    exact mCar (f := fun L => st1 S d mi (.i2b) L st w) (by intro L M q; exact mUnI_car) hs h
  case lcmp =>
    exact mCar (f := fun L => st1 S d mi (.lcmp) L st w) (by intro L M q; exact mCmp_car) hs h
  case dup =>
    exact mCar (f := fun L => st1 S d mi (.dup) L st w) (by intro L M q; exact mDup_car) hs h
  case pop =>
    exact mCar (f := fun L => st1 S d mi (.pop) L st w) (by intro L M q; exact mPp_car) hs h
  case dup2 =>
    exact mCar (f := fun L => st1 S d mi (.dup2) L st w) (by intro L M q; exact mDup2_car) hs h
  case ldc k =>
    exact mCar (f := fun L => st1 S d mi (.ldc k) L st w) (by intro L M q; exact mLdc_car) hs h
  case ldc_w k =>
    exact mCar (f := fun L => st1 S d mi (.ldc_w k) L st w) (by intro L M q; exact mLdcW_car) hs h
  case ldc2_w k =>
    exact mCar (f := fun L => st1 S d mi (.ldc2_w k) L st w) (by intro L M q; exact mLdc2_car) hs h
  case getfield k =>
    exact mCar (f := fun L => st1 S d mi (.getfield k) L st w) (by intro L M q; exact mGet_car) hs h
  case putfield k =>
    exact mCar (f := fun L => st1 S d mi (.putfield k) L st w) (by intro L M q; exact mPut_car) hs h
  case iaload =>
    exact mCar (f := fun L => st1 S d mi (.iaload) L st w) (by intro L M q; exact mIal_car) hs h
  case baload =>
    exact mCar (f := fun L => st1 S d mi (.baload) L st w) (by intro L M q; exact mBal_car) hs h
  case laload =>
    exact mCar (f := fun L => st1 S d mi (.laload) L st w) (by intro L M q; exact mLal_car) hs h
  case aaload =>
    exact mCar (f := fun L => st1 S d mi (.aaload) L st w) (by intro L M q; exact mAal_car) hs h
  case iastore =>
    exact mCar (f := fun L => st1 S d mi (.iastore) L st w) (by intro L M q; exact mIas_car) hs h
  case bastore =>
    exact mCar (f := fun L => st1 S d mi (.bastore) L st w) (by intro L M q; exact mBas_car) hs h
  case lastore =>
    exact mCar (f := fun L => st1 S d mi (.lastore) L st w) (by intro L M q; exact mLas_car) hs h
  case aastore =>
    exact mCar (f := fun L => st1 S d mi (.aastore) L st w) (by intro L M q; exact mAas_car) hs h
  case arraylength =>
    exact mCar (f := fun L => st1 S d mi (.arraylength) L st w) (by intro L M q; exact mAln_car) hs h
  case newarray t =>
    exact mCar (f := fun L => st1 S d mi (.newarray t) L st w) (by intro L M q; exact mNwa_car) hs h
  case anewarray k =>
    exact mCar (f := fun L => st1 S d mi (.anewarray k) L st w) (by intro L M q; exact mNwq_car) hs h
  case new k =>
    exact mCar (f := fun L => st1 S d mi (.new k) L st w) (by intro L M q; exact mNwo_car) hs h
  case invokespecial k =>
    exact mCar (f := fun L => st1 S d mi (.invokespecial k) L st w) (by intro L M q; exact mIsp_car) hs h
  case iadd =>
    exact mCar (f := fun L => st1 S d mi (.iadd) L st w) (by intro L M q; exact mDef_car (i := .iadd)) hs h
  case isub =>
    exact mCar (f := fun L => st1 S d mi (.isub) L st w) (by intro L M q; exact mDef_car (i := .isub)) hs h
  case imul =>
    exact mCar (f := fun L => st1 S d mi (.imul) L st w) (by intro L M q; exact mDef_car (i := .imul)) hs h
  case iand =>
    exact mCar (f := fun L => st1 S d mi (.iand) L st w) (by intro L M q; exact mDef_car (i := .iand)) hs h
  case ior =>
    exact mCar (f := fun L => st1 S d mi (.ior) L st w) (by intro L M q; exact mDef_car (i := .ior)) hs h
  case ixor =>
    exact mCar (f := fun L => st1 S d mi (.ixor) L st w) (by intro L M q; exact mDef_car (i := .ixor)) hs h
  case ishl =>
    exact mCar (f := fun L => st1 S d mi (.ishl) L st w) (by intro L M q; exact mDef_car (i := .ishl)) hs h
  case ishr =>
    exact mCar (f := fun L => st1 S d mi (.ishr) L st w) (by intro L M q; exact mDef_car (i := .ishr)) hs h
  case iushr =>
    exact mCar (f := fun L => st1 S d mi (.iushr) L st w) (by intro L M q; exact mDef_car (i := .iushr)) hs h
  case idiv =>
    exact mCar (f := fun L => st1 S d mi (.idiv) L st w) (by intro L M q; exact mDef_car (i := .idiv)) hs h
  case irem =>
    exact mCar (f := fun L => st1 S d mi (.irem) L st w) (by intro L M q; exact mDef_car (i := .irem)) hs h
  case ladd =>
    exact mCar (f := fun L => st1 S d mi (.ladd) L st w) (by intro L M q; exact mDef_car (i := .ladd)) hs h
  case lsub =>
    exact mCar (f := fun L => st1 S d mi (.lsub) L st w) (by intro L M q; exact mDef_car (i := .lsub)) hs h
  case lmul =>
    exact mCar (f := fun L => st1 S d mi (.lmul) L st w) (by intro L M q; exact mDef_car (i := .lmul)) hs h
  case land =>
    exact mCar (f := fun L => st1 S d mi (.land) L st w) (by intro L M q; exact mDef_car (i := .land)) hs h
  case lor =>
    exact mCar (f := fun L => st1 S d mi (.lor) L st w) (by intro L M q; exact mDef_car (i := .lor)) hs h
  case lxor =>
    exact mCar (f := fun L => st1 S d mi (.lxor) L st w) (by intro L M q; exact mDef_car (i := .lxor)) hs h
  case ldiv =>
    exact mCar (f := fun L => st1 S d mi (.ldiv) L st w) (by intro L M q; exact mDef_car (i := .ldiv)) hs h
  case lrem =>
    exact mCar (f := fun L => st1 S d mi (.lrem) L st w) (by intro L M q; exact mDef_car (i := .lrem)) hs h
  case lshl =>
    exact mCar (f := fun L => st1 S d mi (.lshl) L st w) (by intro L M q; exact mDef_car (i := .lshl)) hs h
  case lshr =>
    exact mCar (f := fun L => st1 S d mi (.lshr) L st w) (by intro L M q; exact mDef_car (i := .lshr)) hs h
  case lushr =>
    exact mCar (f := fun L => st1 S d mi (.lushr) L st w) (by intro L M q; exact mDef_car (i := .lushr)) hs h
  case invokestatic k =>
    exact mCar (f := fun L => st1 S d mi (.invokestatic k) L st w) (by intro L M q; exact mIst_car) hs h
  case invokevirtual k =>
    exact mCar (f := fun L => st1 S d mi (.invokevirtual k) L st w) (by intro L M q; exact mIvt_car) hs h
  all_goals exact absurd h (by simp [st1])
theorem mNone {f : mL → mT} {Lo Lb : mL} (hf : ∀ (L M : mL) (q : mL × List Value × mW), f L = some q → q.1 = L ∧ f M = some (M, q.2)) (h : f Lo = none) : f Lb = none := by
  cases hb : f Lb with
  | none => rfl
  | some q =>
    have := (hf Lb Lo q hb).2
    rw [h] at this
    cases this
section SUB
variable {S : Nat × (Nat → Int32)}
set_option maxHeartbeats 1000000 in
theorem ex_sub : ∀ (n d mi pc : Nat) (Lo Lb : mL) (st : List Value) (w : mW) (r : mO × mW), mSub Lo Lb → ex S n d mi pc Lo st w = some r → ex S n d mi pc Lb st w = some r := by
  intro n
  induction n with
  | zero =>
    intro d mi pc Lo Lb st w r hs h
    cases h
  | succ n ih =>
    intro d mi pc Lo Lb st w r hsub h
    have brk : ∀ {c : Jvm.ClassFile.Cond} {x y : Int32} {A B A' B' : Option (mO × mW)}, (A = some r → A' = some r) → (B = some r → B' = some r) → mBr c x y A B = some r → mBr c x y A' B' = some r := by
      intro c x y A B A' B' hA hB h
      cases c <;> (unfold mBr at h ⊢; dsimp only at h ⊢; split at h <;> rename_i q <;> simp only [q, if_true, if_false] <;> first | exact hA h | exact hB h)
    unfold ex at h ⊢
    cases hc : cod mi pc with
    | none => rw [hc] at h; cases h
    | some q =>
      obtain ⟨i, len⟩ := q
      rw [hc] at h
      dsimp only at h ⊢
      cases hs : st1 S d mi i Lo st w with
      | some q =>
        obtain ⟨Lo1, st9, w1⟩ := q
        rw [hs] at h
        obtain ⟨Lb1, h1, h2⟩ := st1_sub hsub hs
        rw [h1]
        dsimp only at h ⊢
        exact ih _ _ _ _ _ _ _ _ h2 h
      | none =>
        rw [hs] at h
        dsimp only at h
        split at h
        · exact ih _ _ _ _ _ _ _ _ hsub h
        · split at h
          · exact brk (ih _ _ _ _ _ _ _ _ hsub) (ih _ _ _ _ _ _ _ _ hsub) h
          · cases h
        · split at h
          · exact brk (ih _ _ _ _ _ _ _ _ hsub) (ih _ _ _ _ _ _ _ _ hsub) h
          · cases h
        · split at h
          · exact ih _ _ _ _ _ _ _ _ hsub h
          · exact ih _ _ _ _ _ _ _ _ hsub h
          · cases h
        · split at h
          · split at h
            · rename_i q
              show (if _ then _ else _) = _
              rw [if_pos q]
              exact ih _ _ _ _ _ _ _ _ hsub h
            · rename_i q
              show (if _ then _ else _) = _
              rw [if_neg q]
              split at h
              · rename_i off ho
                try rw [ho]
                exact ih _ _ _ _ _ _ _ _ hsub h
              · cases h
          · cases h
        · exact h
        · exact h
        · exact h
        · rename_i x
          have hb : st1 S d mi (.new x) Lb st w = none := mNone (f := fun L => st1 S d mi (.new x) L st w) (by intro L M q; exact mNwo_car) hs
          rw [hb]
          exact h
        · rename_i x
          have hb : st1 S d mi (.invokevirtual x) Lb st w = none := mNone (f := fun L => st1 S d mi (.invokevirtual x) L st w) (by intro L M q; exact mIvt_car) hs
          rw [hb]
          try dsimp only
          split at h
          · rename_i hg
            try rw [hg]
            try dsimp only
            split at h
            · rename_i hp
              try rw [hp]
              try dsimp only
              split at h
              · rename_i q
                try rw [if_pos q]
                split at h
                · rename_i hcal
                  try rw [hcal]
                  exact ih _ _ _ _ _ _ _ _ hsub h
                · cases h
              · cases h
            · cases h
          · cases h
        · rename_i x
          have hb : st1 S d mi (.invokespecial x) Lb st w = none := mNone (f := fun L => st1 S d mi (.invokespecial x) L st w) (by intro L M q; exact mIsp_car) hs
          rw [hb]
          try dsimp only
          split at h
          · rename_i hg
            try rw [hg]
            try dsimp only
            split at h
            · rename_i hp
              try rw [hp]
              try dsimp only
              split at h
              · rename_i q
                try rw [if_pos q]
                split at h
                · rename_i hcal
                  try rw [hcal]
                  exact ih _ _ _ _ _ _ _ _ hsub h
                · cases h
              · cases h
            · cases h
          · cases h
        · rename_i x
          have hb : st1 S d mi (.invokestatic x) Lb st w = none := mNone (f := fun L => st1 S d mi (.invokestatic x) L st w) (by intro L M q; exact mIst_car) hs
          rw [hb]
          try dsimp only
          split at h
          · rename_i hg
            try rw [hg]
            try dsimp only
            split at h
            · rename_i hp
              try rw [hp]
              try dsimp only
              split at h
              · rename_i q
                try rw [if_pos q]
                split at h
                · rename_i q2
                  try rw [if_pos q2]
                  split at h
                  · try dsimp only
                    split at h
                    · rename_i h4 h9
                      try rw [h4, h9]
                      try dsimp only
                      split at h
                      · rename_i hcal
                        try rw [hcal]
                        exact ih _ _ _ _ _ _ _ _ hsub h
                      · rename_i hcal
                        try rw [hcal]
                        exact ih _ _ _ _ _ _ _ _ hsub h
                      · cases h
                    · cases h
                  · cases h
                · rename_i q2
                  try rw [if_neg q2]
                  split at h
                  · rename_i hcal
                    try rw [hcal]
                    exact ih _ _ _ _ _ _ _ _ hsub h
                  · cases h
              · cases h
            · cases h
          · cases h
        · cases h
theorem wp_sub {d mi pc : Nat} {Lo Lb : mL} {st : List Value} {w : mW} {Q : mO → mW → Prop} (hs : mSub Lo Lb) (h : wp S d mi pc Lo st w Q) : wp S d mi pc Lb st w Q := by
  obtain ⟨n, o, w', h1, h2⟩ := h
  exact ⟨n, o, w', ex_sub _ _ _ _ _ _ _ _ _ hs h1, h2⟩
end SUB
end
section
section VH
variable {S : Nat × (Nat → Int32)} {d mi pc : Nat} {Lo : mL} {st r : List Value} {x : mX} {I : rI0} {J : rJ0} {Q : mO → mW → Prop}
theorem wq_sln {k1 nn a : Nat} {v : Int32} (hc : cod mi pc = some (.invokevirtual k1, 3)) (hg : mLk gCall (gO mi) k1 = some (1002, nn)) (ha : mScr < a ∧ a ≤ 1000005) (hr : mCat r ≤ 8) (hv : Int32.ofNat (gSb.getD (a - 1000001) []).length = v) (k : wp S (d + 7) mi (pc + 3) Lo (.int v :: r) (wv x I J) Q) : wp S (d + 7) mi pc Lo (.ref a :: r) (wv x I J) Q := by
  subst hv
  refine wp_st hc ?_ k
  show mIvt (d + 7) mi k1 Lo (.ref a :: r) (wv x I J) = _
  unfold mIvt
  rw [hg]
  exact if_pos ⟨by omega, hr, ha.1, ha.2⟩
theorem wq_sch {k1 nn a len : Nat} {j : Int32} (hc : cod mi pc = some (.invokevirtual k1, 3)) (hg : mLk gCall (gO mi) k1 = some (1003, nn)) (ha : mScr < a ∧ a ≤ 1000005) (hr : mCat r ≤ 8) (hl : (gSb.getD (a - 1000001) []).length = len) (hj : ¬ mOut j len) (k : wp S (d + 7) mi (pc + 3) Lo (.int ((gSb.getD (a - 1000001) []).getD j.toNatClampNeg 0) :: r) (wv x I J) Q) : wp S (d + 7) mi pc Lo (.int j :: .ref a :: r) (wv x I J) Q := by
  subst hl
  refine wp_st hc ?_ k
  show mIvt (d + 7) mi k1 Lo (.int j :: .ref a :: r) (wv x I J) = _
  unfold mIvt
  rw [hg]
  exact if_pos ⟨by omega, hr, ha.1, ha.2, hj⟩
theorem wq_cpI {k1 nn a0 a n0 n1 : Nat} {sp dp n : Int32} (hc : cod mi pc = some (.invokestatic k1, 3)) (hg : mLk gCall (gO mi) k1 = some (1001, nn)) (h0 : (SHL ++ x.1)[a0]? = some (1, n0)) (h1 : (SHL ++ x.1)[a]? = some (1, n1)) (hb : ¬ sp < 0 ∧ ¬ dp < 0 ∧ ¬ n < 0 ∧ sp.toNatClampNeg + n.toNatClampNeg ≤ n0 ∧ dp.toNatClampNeg + n.toNatClampNeg ≤ n1) (hr : mCat r ≤ 8) (k : wp S (d + 1) mi (pc + 3) Lo r (wv x (va_up I a (va_cpy (I a0) (I a) sp.toNatClampNeg dp.toNatClampNeg n.toNatClampNeg)) J) Q) : wp S (d + 1) mi pc Lo (.int n :: .int dp :: .ref a :: .int sp :: .ref a0 :: r) (wv x I J) Q := by
  refine wp_st hc ?_ k
  show mIst (d + 1) mi k1 Lo (.int n :: .int dp :: .ref a :: .int sp :: .ref a0 :: r) (wv x I J) = _
  have h0 : (wS (wv x I J))[a0]? = some (1, n0) := h0
  have h1 : (wS (wv x I J))[a]? = some (1, n1) := h1
  unfold mIst
  rw [hg]
  show mAcp (d + 1) Lo (.int n :: .int dp :: .ref a :: .int sp :: .ref a0 :: r) (wv x I J) = _
  unfold mAcp
  dsimp only
  rw [if_pos ⟨Nat.succ_pos d, hr, hb.1, hb.2.1, hb.2.2.1⟩]
  unfold mCpy
  rw [h0, h1]
  exact if_neg (by omega)
theorem wq_cpJ {k1 nn a0 a n0 n1 : Nat} {sp dp n : Int32} (hc : cod mi pc = some (.invokestatic k1, 3)) (hg : mLk gCall (gO mi) k1 = some (1001, nn)) (h0 : (SHL ++ x.1)[a0]? = some (4, n0)) (h1 : (SHL ++ x.1)[a]? = some (4, n1)) (hb : ¬ sp < 0 ∧ ¬ dp < 0 ∧ ¬ n < 0 ∧ sp.toNatClampNeg + n.toNatClampNeg ≤ n0 ∧ dp.toNatClampNeg + n.toNatClampNeg ≤ n1) (hr : mCat r ≤ 8) (k : wp S (d + 1) mi (pc + 3) Lo r (wv x I (va_up J a (va_cpy (J a0) (J a) sp.toNatClampNeg dp.toNatClampNeg n.toNatClampNeg))) Q) : wp S (d + 1) mi pc Lo (.int n :: .int dp :: .ref a :: .int sp :: .ref a0 :: r) (wv x I J) Q := by
  refine wp_st hc ?_ k
  show mIst (d + 1) mi k1 Lo (.int n :: .int dp :: .ref a :: .int sp :: .ref a0 :: r) (wv x I J) = _
  have h0 : (wS (wv x I J))[a0]? = some (4, n0) := h0
  have h1 : (wS (wv x I J))[a]? = some (4, n1) := h1
  unfold mIst
  rw [hg]
  show mAcp (d + 1) Lo (.int n :: .int dp :: .ref a :: .int sp :: .ref a0 :: r) (wv x I J) = _
  unfold mAcp
  dsimp only
  rw [if_pos ⟨Nat.succ_pos d, hr, hb.1, hb.2.1, hb.2.2.1⟩]
  unfold mCpy
  rw [h0, h1]
  exact if_neg (by omega)
theorem wt_tab {df lo hi : Int} {offs : Array Int} {len nn : Nat} {x1 : Int32} (hc : cod mi pc = some (.tableswitch df lo hi offs, len)) (hn : offs.size = nn ∧ hi = lo + (nn : Int) - 1) (kd : x1.toInt < lo ∨ hi < x1.toInt → wp S d mi (mTgt pc df) Lo r (wv x I J) Q) (ki : ∀ i : Nat, i < nn → x1.toInt = lo + (i : Int) → wp S d mi (mTgt pc (offs.getD i 0)) Lo r (wv x I J) Q) : wp S d mi pc Lo (.int x1 :: r) (wv x I J) Q := by
  refine wp_tab hc kd (fun off q ho => ?_) (fun q => by omega)
  have h1 := ki (x1.toInt - lo).toNat (by omega) (by omega)
  have h2 : offs.getD (x1.toInt - lo).toNat 0 = off := by rw [Array.getD_eq_getD_getElem?, ho]; rfl
  rw [h2] at h1
  exact h1
end VH
end
section
set_option maxRecDepth 20000 in
theorem v99_0_0 {S : Nat × (Nat → Int32)} {d : Nat} {x : mX} {I : rI0} {J : rJ0} {p1 : Int32} {p2 : Int32} {p3 : Int32} {p4 : Int32} {p5 : Int32} {Q : Int32 → rI0 → rJ0 → Prop} (k : (((940 : Int32) < ((I 1 1) + (20 : Int32)) → Q (-1 : Int32) I J) ∧ (¬ (940 : Int32) < ((I 1 1) + (20 : Int32)) → (wcV S d 66 [.ref 1, .int p1] x I J (fun I1 J1 => (wcV S d 66 [.ref 1, .int p2] x I1 J1 (fun I2 J2 => (wcV S d 66 [.ref 1, .int p3] x I2 J2 (fun I3 J3 => (wcV S d 66 [.ref 1, .int p4] x I3 J3 (fun I4 J4 => (wcV S d 66 [.ref 1, .int p5] x I4 J4 (fun I5 J5 => Q (I5 1 1) I5 J5))))))))))))) : wp S (d + 1) 99 0 [some (.ref 0), some (.int p1), some (.int p2), some (.int p3), some (.int p4), some (.int p5)] [] (wv x I J) (rI x Q) := by
  refine wp_seg (C := gC99) (pc1 := 13) (Lo1 := [some (.ref 0), some (.int p1), some (.int p2), some (.int p3), some (.int p4), some (.int p5)]) (st1' := [.int (940 : Int32), .int ((I 1 1) + (20 : Int32))]) (w1 := (wv x I J)) rfl 6 rfl ?_
  refine wj_le (tgt := 18) rfl rfl (fun h => ?_) (fun h => ?_)
  · have k := k.1 h
    refine wp_seg (C := gC99) (pc1 := 17) (Lo1 := [some (.ref 0), some (.int p1), some (.int p2), some (.int p3), some (.int p4), some (.int p5)]) (st1' := [.int (-1 : Int32)]) (w1 := (wv x I J)) rfl 1 rfl ?_
    exact we_i rfl rfl k
  · have k := k.2 h
    refine wp_seg (C := gC99) (pc1 := 23) (Lo1 := [some (.ref 0), some (.int p1), some (.int p2), some (.int p3), some (.int p4), some (.int p5)]) (st1' := [.int p1, .ref 1]) (w1 := (wv x I J)) rfl 3 rfl ?_
    refine cv_V (mj := 66) (a := 1) (as := [.int p1]) (r := []) rfl rfl rfl ⟨rfl, by decide, Nat.le_of_ble_eq_true rfl, Nat.le_of_ble_eq_true rfl⟩ rfl (wcV_mono k (fun I1 J1 k => ?_))
    refine wp_seg (C := gC99) (pc1 := 31) (Lo1 := [some (.ref 0), some (.int p1), some (.int p2), some (.int p3), some (.int p4), some (.int p5)]) (st1' := [.int p2, .ref 1]) (w1 := (wv x I1 J1)) rfl 3 rfl ?_
    refine cv_V (mj := 66) (a := 1) (as := [.int p2]) (r := []) rfl rfl rfl ⟨rfl, by decide, Nat.le_of_ble_eq_true rfl, Nat.le_of_ble_eq_true rfl⟩ rfl (wcV_mono k (fun I2 J2 k => ?_))
    refine wp_seg (C := gC99) (pc1 := 39) (Lo1 := [some (.ref 0), some (.int p1), some (.int p2), some (.int p3), some (.int p4), some (.int p5)]) (st1' := [.int p3, .ref 1]) (w1 := (wv x I2 J2)) rfl 3 rfl ?_
    refine cv_V (mj := 66) (a := 1) (as := [.int p3]) (r := []) rfl rfl rfl ⟨rfl, by decide, Nat.le_of_ble_eq_true rfl, Nat.le_of_ble_eq_true rfl⟩ rfl (wcV_mono k (fun I3 J3 k => ?_))
    refine wp_seg (C := gC99) (pc1 := 48) (Lo1 := [some (.ref 0), some (.int p1), some (.int p2), some (.int p3), some (.int p4), some (.int p5)]) (st1' := [.int p4, .ref 1]) (w1 := (wv x I3 J3)) rfl 3 rfl ?_
    refine cv_V (mj := 66) (a := 1) (as := [.int p4]) (r := []) rfl rfl rfl ⟨rfl, by decide, Nat.le_of_ble_eq_true rfl, Nat.le_of_ble_eq_true rfl⟩ rfl (wcV_mono k (fun I4 J4 k => ?_))
    refine wp_seg (C := gC99) (pc1 := 57) (Lo1 := [some (.ref 0), some (.int p1), some (.int p2), some (.int p3), some (.int p4), some (.int p5)]) (st1' := [.int p5, .ref 1]) (w1 := (wv x I4 J4)) rfl 3 rfl ?_
    refine cv_V (mj := 66) (a := 1) (as := [.int p5]) (r := []) rfl rfl rfl ⟨rfl, by decide, Nat.le_of_ble_eq_true rfl, Nat.le_of_ble_eq_true rfl⟩ rfl (wcV_mono k (fun I5 J5 k => ?_))
    refine wp_seg (C := gC99) (pc1 := 67) (Lo1 := [some (.ref 0), some (.int p1), some (.int p2), some (.int p3), some (.int p4), some (.int p5)]) (st1' := [.int (I5 1 1)]) (w1 := (wv x I5 J5)) rfl 3 rfl ?_
    exact we_i rfl rfl k
set_option maxRecDepth 20000 in
theorem v100_0_0 {S : Nat × (Nat → Int32)} {d : Nat} {x : mX} {I : rI0} {J : rJ0} {p1 : Int32} {Q : Int32 → rI0 → rJ0 → Prop} (k : ((p1 < (0 : Int32) → Q (0 : Int32) I J) ∧ (¬ p1 < (0 : Int32) → (((I 1 1) < p1 → Q (0 : Int32) I J) ∧ (¬ (I 1 1) < p1 → Q (1 : Int32) (mSet I 1 1 p1) J))))) : wp S d 100 0 [some (.ref 0), some (.int p1)] [] (wv x I J) (rI x Q) := by
  refine wp_seg (C := gC100) (pc1 := 1) (Lo1 := [some (.ref 0), some (.int p1)]) (st1' := [.int p1]) (w1 := (wv x I J)) rfl 1 rfl ?_
  refine wi_lt (tgt := 15) rfl rfl (fun h => ?_) (fun h => ?_)
  · have k := k.1 h
    refine wp_seg (C := gC100) (pc1 := 16) (Lo1 := [some (.ref 0), some (.int p1)]) (st1' := [.int (0 : Int32)]) (w1 := (wv x I J)) rfl 1 rfl ?_
    exact we_z rfl rfl (Or.inl rfl) k
  · have k := k.2 h
    refine wp_seg (C := gC100) (pc1 := 12) (Lo1 := [some (.ref 0), some (.int p1)]) (st1' := [.int (I 1 1), .int p1]) (w1 := (wv x I J)) rfl 4 rfl ?_
    refine wj_le (tgt := 17) rfl rfl (fun h => ?_) (fun h => ?_)
    · have k := k.1 h
      refine wp_seg (C := gC100) (pc1 := 16) (Lo1 := [some (.ref 0), some (.int p1)]) (st1' := [.int (0 : Int32)]) (w1 := (wv x I J)) rfl 1 rfl ?_
      exact we_z rfl rfl (Or.inl rfl) k
    · have k := k.2 h
      refine wp_seg (C := gC100) (pc1 := 26) (Lo1 := [some (.ref 0), some (.int p1)]) (st1' := [.int (1 : Int32)]) (w1 := (wv x (mSet I 1 1 p1) J)) rfl 5 rfl ?_
      exact we_z rfl rfl (Or.inr rfl) k
set_option maxRecDepth 20000 in
theorem v101_0_0 {S : Nat × (Nat → Int32)} {d : Nat} {x : mX} {I : rI0} {J : rJ0} {Q : Int32 → rI0 → rJ0 → Prop} (k : (wcV S d 14 [.ref 15] x I J (fun I1 J1 => (wcI S d 67 [.ref 1] x I1 J1 (fun r2 I2 J2 => (wcV S d 69 [.ref 28, .int r2, .int (900 : Int32)] x I2 J2 (fun I3 J3 => (wcV S d 36 [.ref 29] x I3 J3 (fun I4 J4 => wp S (d + 1) 101 33 [some (.ref 0), some (.int (0 : Int32))] [] (wv x I4 J4) (rI x Q)))))))))) : wp S (d + 1) 101 0 [some (.ref 0), none] [] (wv x I J) (rI x Q) := by
  refine wp_seg (C := gC101) (pc1 := 4) (Lo1 := [some (.ref 0), none]) (st1' := [.ref 15]) (w1 := (wv x I J)) rfl 2 rfl ?_
  refine cv_V (mj := 14) (a := 15) (as := []) (r := []) rfl rfl rfl ⟨rfl, by decide, Nat.le_of_ble_eq_true rfl, Nat.le_of_ble_eq_true rfl⟩ rfl (wcV_mono k (fun I1 J1 k => ?_))
  refine wp_seg (C := gC101) (pc1 := 15) (Lo1 := [some (.ref 0), none]) (st1' := [.ref 1, .ref 28]) (w1 := (wv x I1 J1)) rfl 4 rfl ?_
  refine cv_I (mj := 67) (a := 1) (as := []) (r := [.ref 28]) rfl rfl rfl ⟨rfl, by decide, Nat.le_of_ble_eq_true rfl, Nat.le_of_ble_eq_true rfl⟩ rfl (wcI_mono k (fun r2 I2 J2 k => ?_))
  refine wp_seg (C := gC101) (pc1 := 21) (Lo1 := [some (.ref 0), none]) (st1' := [.int (900 : Int32), .int r2, .ref 28]) (w1 := (wv x I2 J2)) rfl 1 rfl ?_
  refine cv_V (mj := 69) (a := 28) (as := [.int r2, .int (900 : Int32)]) (r := []) rfl rfl rfl ⟨rfl, by decide, Nat.le_of_ble_eq_true rfl, Nat.le_of_ble_eq_true rfl⟩ rfl (wcV_mono k (fun I3 J3 k => ?_))
  refine wp_seg (C := gC101) (pc1 := 28) (Lo1 := [some (.ref 0), none]) (st1' := [.ref 29]) (w1 := (wv x I3 J3)) rfl 2 rfl ?_
  refine cv_V (mj := 36) (a := 29) (as := []) (r := []) rfl rfl rfl ⟨rfl, by decide, Nat.le_of_ble_eq_true rfl, Nat.le_of_ble_eq_true rfl⟩ rfl (wcV_mono k (fun I4 J4 k => ?_))
  refine wp_seg (C := gC101) (pc1 := 33) (Lo1 := [some (.ref 0), some (.int (0 : Int32))]) (st1' := []) (w1 := (wv x I4 J4)) rfl 2 rfl ?_
  exact k
set_option maxRecDepth 20000 in
theorem v101_0_33 {S : Nat × (Nat → Int32)} {d : Nat} {x : mX} {I : rI0} {J : rJ0} {l1 : Int32} {Q : Int32 → rI0 → rJ0 → Prop} (k : ((l1 < (900 : Int32) → (((I 28 3) = (1 : Int32) → wp S (d + 1) 101 67 [some (.ref 0), some (.int l1)] [] (wv x I J) (rI x Q)) ∧ (¬ (I 28 3) = (1 : Int32) → (wcI S d 37 [.ref 29] x I J (fun r1 I1 J1 => ((r1 = (0 : Int32) → wp S (d + 1) 101 67 [some (.ref 0), some (.int l1)] [] (wv x I1 J1) (rI x Q)) ∧ (¬ r1 = (0 : Int32) → wp S (d + 1) 101 33 [some (.ref 0), some (.int (l1 + (1 : Int32)))] [] (wv x I1 J1) (rI x Q)))))))) ∧ (¬ l1 < (900 : Int32) → wp S (d + 1) 101 67 [some (.ref 0), some (.int l1)] [] (wv x I J) (rI x Q)))) : wp S (d + 1) 101 33 [some (.ref 0), some (.int l1)] [] (wv x I J) (rI x Q) := by
  refine wp_seg (C := gC101) (pc1 := 37) (Lo1 := [some (.ref 0), some (.int l1)]) (st1' := [.int (900 : Int32), .int l1]) (w1 := (wv x I J)) rfl 2 rfl ?_
  refine wj_ge (tgt := 67) rfl rfl (fun h => ?_) (fun h => ?_)
  · have k := k.1 h
    refine wp_seg (C := gC101) (pc1 := 48) (Lo1 := [some (.ref 0), some (.int l1)]) (st1' := [.int (1 : Int32), .int (I 28 3)]) (w1 := (wv x I J)) rfl 4 rfl ?_
    refine wj_eq (tgt := 67) rfl rfl (fun h => ?_) (fun h => ?_)
    · have k := k.1 h
      exact k
    · have k := k.2 h
      refine wp_seg (C := gC101) (pc1 := 55) (Lo1 := [some (.ref 0), some (.int l1)]) (st1' := [.ref 29]) (w1 := (wv x I J)) rfl 2 rfl ?_
      refine cv_I (mj := 37) (a := 29) (as := []) (r := []) rfl rfl rfl ⟨rfl, by decide, Nat.le_of_ble_eq_true rfl, Nat.le_of_ble_eq_true rfl⟩ rfl (wcI_mono k (fun r1 I1 J1 k => ?_))
      refine wi_eq (tgt := 67) rfl rfl (fun h => ?_) (fun h => ?_)
      · have k := k.1 h
        exact k
      · have k := k.2 h
        refine wp_seg (C := gC101) (pc1 := 33) (Lo1 := [some (.ref 0), some (.int (l1 + (1 : Int32)))]) (st1' := []) (w1 := (wv x I1 J1)) rfl 2 rfl ?_
        exact k
  · have k := k.2 h
    exact k
set_option maxRecDepth 20000 in
theorem v101_0_67 {S : Nat × (Nat → Int32)} {d : Nat} {x : mX} {I : rI0} {J : rJ0} {l1 : Int32} {Q : Int32 → rI0 → rJ0 → Prop} (k : (((I 28 8) = (0 : Int32) → (wcV S d 32 [.ref 16] x (mSet I 0 9 (I 28 8)) J (fun I1 J1 => (wcV S d 15 [.ref 3, .ref 15] x I1 J1 (fun I2 J2 => (wcV S d 6 [.ref 31] x I2 J2 (fun I3 J3 => Q l1 I3 J3))))))) ∧ (¬ (I 28 8) = (0 : Int32) → Q ((-1 : Int32) - (I 28 4)) (mSet I 0 9 (I 28 8)) J))) : wp S (d + 1) 101 67 [some (.ref 0), some (.int l1)] [] (wv x I J) (rI x Q) := by
  refine wp_seg (C := gC101) (pc1 := 82) (Lo1 := [some (.ref 0), some (.int l1)]) (st1' := [.int (I 28 8)]) (w1 := (wv x (mSet I 0 9 (I 28 8)) J)) rfl 7 rfl ?_
  refine wi_eq (tgt := 95) rfl rfl (fun h => ?_) (fun h => ?_)
  · have k := k.1 h
    refine wp_seg (C := gC101) (pc1 := 102) (Lo1 := [some (.ref 0), some (.int l1)]) (st1' := [.ref 16]) (w1 := (wv x (mSet I 0 9 (I 28 8)) J)) rfl 3 rfl ?_
    refine cv_V (mj := 32) (a := 16) (as := []) (r := []) rfl rfl rfl ⟨rfl, by decide, Nat.le_of_ble_eq_true rfl, Nat.le_of_ble_eq_true rfl⟩ rfl (wcV_mono k (fun I1 J1 k => ?_))
    refine wp_seg (C := gC101) (pc1 := 113) (Lo1 := [some (.ref 0), some (.int l1)]) (st1' := [.ref 15, .ref 3]) (w1 := (wv x I1 J1)) rfl 4 rfl ?_
    refine cv_V (mj := 15) (a := 3) (as := [.ref 15]) (r := []) rfl rfl rfl ⟨rfl, by decide, Nat.le_of_ble_eq_true rfl, Nat.le_of_ble_eq_true rfl⟩ rfl (wcV_mono k (fun I2 J2 k => ?_))
    refine wp_seg (C := gC101) (pc1 := 120) (Lo1 := [some (.ref 0), some (.int l1)]) (st1' := [.ref 31]) (w1 := (wv x I2 J2)) rfl 2 rfl ?_
    refine cv_V (mj := 6) (a := 31) (as := []) (r := []) rfl rfl rfl ⟨rfl, by decide, Nat.le_of_ble_eq_true rfl, Nat.le_of_ble_eq_true rfl⟩ rfl (wcV_mono k (fun I3 J3 k => ?_))
    refine wp_seg (C := gC101) (pc1 := 124) (Lo1 := [some (.ref 0), some (.int l1)]) (st1' := [.int l1]) (w1 := (wv x I3 J3)) rfl 1 rfl ?_
    exact we_i rfl rfl k
  · have k := k.2 h
    refine wp_seg (C := gC101) (pc1 := 94) (Lo1 := [some (.ref 0), some (.int l1)]) (st1' := [.int ((-1 : Int32) - (I 28 4))]) (w1 := (wv x (mSet I 0 9 (I 28 8)) J)) rfl 5 rfl ?_
    exact we_i rfl rfl k
set_option maxRecDepth 20000 in
theorem v102_0_0 {S : Nat × (Nat → Int32)} {d : Nat} {x : mX} {I : rI0} {J : rJ0} {Q : Int32 → rI0 → rJ0 → Prop} (k : Q (I 0 9) I J) : wp S d 102 0 [some (.ref 0)] [] (wv x I J) (rI x Q) := by
  refine wp_seg (C := gC102) (pc1 := 4) (Lo1 := [some (.ref 0)]) (st1' := [.int (I 0 9)]) (w1 := (wv x I J)) rfl 2 rfl ?_
  exact we_i rfl rfl k
set_option maxRecDepth 20000 in
theorem v104_0_0 {S : Nat × (Nat → Int32)} {d : Nat} {x : mX} {I : rI0} {J : rJ0} {p1 : Int32} {p2 : Int32} {Q : Int32 → rI0 → rJ0 → Prop} (k : ((p1 < (0 : Int32) → Q (-1 : Int32) I J) ∧ (¬ p1 < (0 : Int32) → ((p1 < (6 : Int32) → ((p2 < (0 : Int32) → Q (-1 : Int32) I J) ∧ (¬ p2 < (0 : Int32) → (((1 : Int32) < p2 → Q (-1 : Int32) I J) ∧ (¬ (1 : Int32) < p2 → (¬ mOut (((2 : Int32) * p1) + p2) 12 ∧ Q (I 9 ((((2 : Int32) * p1) + p2).toNatClampNeg)) I J)))))) ∧ (¬ p1 < (6 : Int32) → Q (-1 : Int32) I J))))) : wp S d 104 0 [some (.ref 0), some (.int p1), some (.int p2)] [] (wv x I J) (rI x Q) := by
  refine wp_seg (C := gC104) (pc1 := 1) (Lo1 := [some (.ref 0), some (.int p1), some (.int p2)]) (st1' := [.int p1]) (w1 := (wv x I J)) rfl 1 rfl ?_
  refine wi_lt (tgt := 19) rfl rfl (fun h => ?_) (fun h => ?_)
  · have k := k.1 h
    refine wp_seg (C := gC104) (pc1 := 20) (Lo1 := [some (.ref 0), some (.int p1), some (.int p2)]) (st1' := [.int (-1 : Int32)]) (w1 := (wv x I J)) rfl 1 rfl ?_
    exact we_i rfl rfl k
  · have k := k.2 h
    refine wp_seg (C := gC104) (pc1 := 7) (Lo1 := [some (.ref 0), some (.int p1), some (.int p2)]) (st1' := [.int (6 : Int32), .int p1]) (w1 := (wv x I J)) rfl 2 rfl ?_
    refine wj_ge (tgt := 19) rfl rfl (fun h => ?_) (fun h => ?_)
    · have k := k.1 h
      refine wp_seg (C := gC104) (pc1 := 11) (Lo1 := [some (.ref 0), some (.int p1), some (.int p2)]) (st1' := [.int p2]) (w1 := (wv x I J)) rfl 1 rfl ?_
      refine wi_lt (tgt := 19) rfl rfl (fun h => ?_) (fun h => ?_)
      · have k := k.1 h
        refine wp_seg (C := gC104) (pc1 := 20) (Lo1 := [some (.ref 0), some (.int p1), some (.int p2)]) (st1' := [.int (-1 : Int32)]) (w1 := (wv x I J)) rfl 1 rfl ?_
        exact we_i rfl rfl k
      · have k := k.2 h
        refine wp_seg (C := gC104) (pc1 := 16) (Lo1 := [some (.ref 0), some (.int p1), some (.int p2)]) (st1' := [.int (1 : Int32), .int p2]) (w1 := (wv x I J)) rfl 2 rfl ?_
        refine wj_le (tgt := 21) rfl rfl (fun h => ?_) (fun h => ?_)
        · have k := k.1 h
          refine wp_seg (C := gC104) (pc1 := 20) (Lo1 := [some (.ref 0), some (.int p1), some (.int p2)]) (st1' := [.int (-1 : Int32)]) (w1 := (wv x I J)) rfl 1 rfl ?_
          exact we_i rfl rfl k
        · have k := k.2 h
          refine wp_seg (C := gC104) (pc1 := 36) (Lo1 := [some (.ref 0), some (.int p1), some (.int p2)]) (st1' := [.int (((2 : Int32) * p1) + p2), .ref 9]) (w1 := (wv x I J)) rfl 9 rfl ?_
          refine wa_i (n := 12) rfl (by decide) rfl k.1 ?_
          have k := k.2
          exact we_i rfl rfl k
    · have k := k.2 h
      refine wp_seg (C := gC104) (pc1 := 20) (Lo1 := [some (.ref 0), some (.int p1), some (.int p2)]) (st1' := [.int (-1 : Int32)]) (w1 := (wv x I J)) rfl 1 rfl ?_
      exact we_i rfl rfl k
set_option maxRecDepth 20000 in
theorem v105_0_0 {S : Nat × (Nat → Int32)} {d : Nat} {x : mX} {I : rI0} {J : rJ0} {p1 : Int32} {p2 : Int32} {Q : Int32 → rI0 → rJ0 → Prop} (k : (wcI S d 24 [.ref 4, .int p1] x I J (fun r1 I1 J1 => ((r1 = (0 : Int32) → Q (0 : Int32) I1 J1) ∧ (¬ r1 = (0 : Int32) → ((p2 < (0 : Int32) → Q (0 : Int32) I1 J1) ∧ (¬ p2 < (0 : Int32) → (((1 : Int32) < p2 → Q (0 : Int32) I1 J1) ∧ (¬ (1 : Int32) < p2 → (wcJ S d 143 [.long (J1 3 5), .int p1, .int p2] x I1 J1 (fun r2 I2 J2 => (wcV S d 6 [.ref 31] x I2 (mSet J2 3 5 r2) (fun I3 J3 => Q (1 : Int32) I3 J3))))))))))))) : wp S (d + 1) 105 0 [some (.ref 0), some (.int p1), some (.int p2)] [] (wv x I J) (rI x Q) := by
  refine wp_seg (C := gC105) (pc1 := 8) (Lo1 := [some (.ref 0), some (.int p1), some (.int p2)]) (st1' := [.int p1, .ref 4]) (w1 := (wv x I J)) rfl 4 rfl ?_
  refine cv_I (mj := 24) (a := 4) (as := [.int p1]) (r := []) rfl rfl rfl ⟨rfl, by decide, Nat.le_of_ble_eq_true rfl, Nat.le_of_ble_eq_true rfl⟩ rfl (wcI_mono k (fun r1 I1 J1 k => ?_))
  refine wi_eq (tgt := 23) rfl rfl (fun h => ?_) (fun h => ?_)
  · have k := k.1 h
    refine wp_seg (C := gC105) (pc1 := 24) (Lo1 := [some (.ref 0), some (.int p1), some (.int p2)]) (st1' := [.int (0 : Int32)]) (w1 := (wv x I1 J1)) rfl 1 rfl ?_
    exact we_z rfl rfl (Or.inl rfl) k
  · have k := k.2 h
    refine wp_seg (C := gC105) (pc1 := 15) (Lo1 := [some (.ref 0), some (.int p1), some (.int p2)]) (st1' := [.int p2]) (w1 := (wv x I1 J1)) rfl 1 rfl ?_
    refine wi_lt (tgt := 23) rfl rfl (fun h => ?_) (fun h => ?_)
    · have k := k.1 h
      refine wp_seg (C := gC105) (pc1 := 24) (Lo1 := [some (.ref 0), some (.int p1), some (.int p2)]) (st1' := [.int (0 : Int32)]) (w1 := (wv x I1 J1)) rfl 1 rfl ?_
      exact we_z rfl rfl (Or.inl rfl) k
    · have k := k.2 h
      refine wp_seg (C := gC105) (pc1 := 20) (Lo1 := [some (.ref 0), some (.int p1), some (.int p2)]) (st1' := [.int (1 : Int32), .int p2]) (w1 := (wv x I1 J1)) rfl 2 rfl ?_
      refine wj_le (tgt := 25) rfl rfl (fun h => ?_) (fun h => ?_)
      · have k := k.1 h
        refine wp_seg (C := gC105) (pc1 := 24) (Lo1 := [some (.ref 0), some (.int p1), some (.int p2)]) (st1' := [.int (0 : Int32)]) (w1 := (wv x I1 J1)) rfl 1 rfl ?_
        exact we_z rfl rfl (Or.inl rfl) k
      · have k := k.2 h
        refine wp_seg (C := gC105) (pc1 := 38) (Lo1 := [some (.ref 0), some (.int p1), some (.int p2)]) (st1' := [.int p2, .int p1, .long (J1 3 5), .ref 3]) (w1 := (wv x I1 J1)) rfl 7 rfl ?_
        refine cs_J (mj := 143) (nn := 0) (as := [.long (J1 3 5), .int p1, .int p2]) (r := [.ref 3]) rfl rfl rfl ⟨rfl, by decide, Nat.le_of_ble_eq_true rfl, Nat.le_of_ble_eq_true rfl⟩ (by decide) (wcJ_mono k (fun r2 I2 J2 k => ?_))
        refine wp_seg (C := gC105) (pc1 := 48) (Lo1 := [some (.ref 0), some (.int p1), some (.int p2)]) (st1' := [.ref 31]) (w1 := (wv x I2 (mSet J2 3 5 r2))) rfl 3 rfl ?_
        refine cv_V (mj := 6) (a := 31) (as := []) (r := []) rfl rfl rfl ⟨rfl, by decide, Nat.le_of_ble_eq_true rfl, Nat.le_of_ble_eq_true rfl⟩ rfl (wcV_mono k (fun I3 J3 k => ?_))
        refine wp_seg (C := gC105) (pc1 := 52) (Lo1 := [some (.ref 0), some (.int p1), some (.int p2)]) (st1' := [.int (1 : Int32)]) (w1 := (wv x I3 J3)) rfl 1 rfl ?_
        exact we_z rfl rfl (Or.inr rfl) k
set_option maxRecDepth 20000 in
theorem v106_0_0 {S : Nat × (Nat → Int32)} {d : Nat} {x : mX} {I : rI0} {J : rJ0} {p1 : Int32} {p2 : Int32} {Q : Int32 → rI0 → rJ0 → Prop} (k : (wcI S d 24 [.ref 4, .int p1] x I J (fun r1 I1 J1 => ((r1 = (0 : Int32) → Q (0 : Int32) I1 J1) ∧ (¬ r1 = (0 : Int32) → ((p2 < (0 : Int32) → Q (0 : Int32) I1 J1) ∧ (¬ p2 < (0 : Int32) → (((1 : Int32) < p2 → Q (0 : Int32) I1 J1) ∧ (¬ (1 : Int32) < p2 → (wcJ S d 143 [.long (J1 3 6), .int p1, .int p2] x I1 J1 (fun r2 I2 J2 => (wcV S d 6 [.ref 31] x I2 (mSet J2 3 6 r2) (fun I3 J3 => Q (1 : Int32) I3 J3))))))))))))) : wp S (d + 1) 106 0 [some (.ref 0), some (.int p1), some (.int p2)] [] (wv x I J) (rI x Q) := by
  refine wp_seg (C := gC106) (pc1 := 8) (Lo1 := [some (.ref 0), some (.int p1), some (.int p2)]) (st1' := [.int p1, .ref 4]) (w1 := (wv x I J)) rfl 4 rfl ?_
  refine cv_I (mj := 24) (a := 4) (as := [.int p1]) (r := []) rfl rfl rfl ⟨rfl, by decide, Nat.le_of_ble_eq_true rfl, Nat.le_of_ble_eq_true rfl⟩ rfl (wcI_mono k (fun r1 I1 J1 k => ?_))
  refine wi_eq (tgt := 23) rfl rfl (fun h => ?_) (fun h => ?_)
  · have k := k.1 h
    refine wp_seg (C := gC106) (pc1 := 24) (Lo1 := [some (.ref 0), some (.int p1), some (.int p2)]) (st1' := [.int (0 : Int32)]) (w1 := (wv x I1 J1)) rfl 1 rfl ?_
    exact we_z rfl rfl (Or.inl rfl) k
  · have k := k.2 h
    refine wp_seg (C := gC106) (pc1 := 15) (Lo1 := [some (.ref 0), some (.int p1), some (.int p2)]) (st1' := [.int p2]) (w1 := (wv x I1 J1)) rfl 1 rfl ?_
    refine wi_lt (tgt := 23) rfl rfl (fun h => ?_) (fun h => ?_)
    · have k := k.1 h
      refine wp_seg (C := gC106) (pc1 := 24) (Lo1 := [some (.ref 0), some (.int p1), some (.int p2)]) (st1' := [.int (0 : Int32)]) (w1 := (wv x I1 J1)) rfl 1 rfl ?_
      exact we_z rfl rfl (Or.inl rfl) k
    · have k := k.2 h
      refine wp_seg (C := gC106) (pc1 := 20) (Lo1 := [some (.ref 0), some (.int p1), some (.int p2)]) (st1' := [.int (1 : Int32), .int p2]) (w1 := (wv x I1 J1)) rfl 2 rfl ?_
      refine wj_le (tgt := 25) rfl rfl (fun h => ?_) (fun h => ?_)
      · have k := k.1 h
        refine wp_seg (C := gC106) (pc1 := 24) (Lo1 := [some (.ref 0), some (.int p1), some (.int p2)]) (st1' := [.int (0 : Int32)]) (w1 := (wv x I1 J1)) rfl 1 rfl ?_
        exact we_z rfl rfl (Or.inl rfl) k
      · have k := k.2 h
        refine wp_seg (C := gC106) (pc1 := 38) (Lo1 := [some (.ref 0), some (.int p1), some (.int p2)]) (st1' := [.int p2, .int p1, .long (J1 3 6), .ref 3]) (w1 := (wv x I1 J1)) rfl 7 rfl ?_
        refine cs_J (mj := 143) (nn := 0) (as := [.long (J1 3 6), .int p1, .int p2]) (r := [.ref 3]) rfl rfl rfl ⟨rfl, by decide, Nat.le_of_ble_eq_true rfl, Nat.le_of_ble_eq_true rfl⟩ (by decide) (wcJ_mono k (fun r2 I2 J2 k => ?_))
        refine wp_seg (C := gC106) (pc1 := 48) (Lo1 := [some (.ref 0), some (.int p1), some (.int p2)]) (st1' := [.ref 31]) (w1 := (wv x I2 (mSet J2 3 6 r2))) rfl 3 rfl ?_
        refine cv_V (mj := 6) (a := 31) (as := []) (r := []) rfl rfl rfl ⟨rfl, by decide, Nat.le_of_ble_eq_true rfl, Nat.le_of_ble_eq_true rfl⟩ rfl (wcV_mono k (fun I3 J3 k => ?_))
        refine wp_seg (C := gC106) (pc1 := 52) (Lo1 := [some (.ref 0), some (.int p1), some (.int p2)]) (st1' := [.int (1 : Int32)]) (w1 := (wv x I3 J3)) rfl 1 rfl ?_
        exact we_z rfl rfl (Or.inr rfl) k
set_option maxRecDepth 20000 in
theorem v107_0_0 {S : Nat × (Nat → Int32)} {d : Nat} {x : mX} {I : rI0} {J : rJ0} {Q : Int32 → rI0 → rJ0 → Prop} (k : (wcI S d 67 [.ref 1] x I J (fun r1 I1 J1 => (wcV S d 69 [.ref 28, .int r1, .int (400 : Int32)] x I1 J1 (fun I2 J2 => (wcV S d 2 [.ref 30] x I2 J2 (fun I3 J3 => (((I3 28 8) = (0 : Int32) → (wcV S d 16 [.ref 3, .ref 15] x (mSet I3 0 9 (I3 28 8)) J3 (fun I4 J4 => (wcV S d 6 [.ref 31] x I4 J4 (fun I5 J5 => Q (I5 3 4) I5 J5))))) ∧ (¬ (I3 28 8) = (0 : Int32) → Q ((-1 : Int32) - (I3 28 4)) (mSet I3 0 9 (I3 28 8)) J3))))))))) : wp S (d + 1) 107 0 [some (.ref 0)] [] (wv x I J) (rI x Q) := by
  refine wp_seg (C := gC107) (pc1 := 8) (Lo1 := [some (.ref 0)]) (st1' := [.ref 1, .ref 28]) (w1 := (wv x I J)) rfl 4 rfl ?_
  refine cv_I (mj := 67) (a := 1) (as := []) (r := [.ref 28]) rfl rfl rfl ⟨rfl, by decide, Nat.le_of_ble_eq_true rfl, Nat.le_of_ble_eq_true rfl⟩ rfl (wcI_mono k (fun r1 I1 J1 k => ?_))
  refine wp_seg (C := gC107) (pc1 := 14) (Lo1 := [some (.ref 0)]) (st1' := [.int (400 : Int32), .int r1, .ref 28]) (w1 := (wv x I1 J1)) rfl 1 rfl ?_
  refine cv_V (mj := 69) (a := 28) (as := [.int r1, .int (400 : Int32)]) (r := []) rfl rfl rfl ⟨rfl, by decide, Nat.le_of_ble_eq_true rfl, Nat.le_of_ble_eq_true rfl⟩ rfl (wcV_mono k (fun I2 J2 k => ?_))
  refine wp_seg (C := gC107) (pc1 := 21) (Lo1 := [some (.ref 0)]) (st1' := [.ref 30]) (w1 := (wv x I2 J2)) rfl 2 rfl ?_
  refine cv_V (mj := 2) (a := 30) (as := []) (r := []) rfl rfl rfl ⟨rfl, by decide, Nat.le_of_ble_eq_true rfl, Nat.le_of_ble_eq_true rfl⟩ rfl (wcV_mono k (fun I3 J3 k => ?_))
  refine wp_seg (C := gC107) (pc1 := 39) (Lo1 := [some (.ref 0)]) (st1' := [.int (I3 28 8)]) (w1 := (wv x (mSet I3 0 9 (I3 28 8)) J3)) rfl 7 rfl ?_
  refine wi_eq (tgt := 52) rfl rfl (fun h => ?_) (fun h => ?_)
  · have k := k.1 h
    refine wp_seg (C := gC107) (pc1 := 60) (Lo1 := [some (.ref 0)]) (st1' := [.ref 15, .ref 3]) (w1 := (wv x (mSet I3 0 9 (I3 28 8)) J3)) rfl 4 rfl ?_
    refine cv_V (mj := 16) (a := 3) (as := [.ref 15]) (r := []) rfl rfl rfl ⟨rfl, by decide, Nat.le_of_ble_eq_true rfl, Nat.le_of_ble_eq_true rfl⟩ rfl (wcV_mono k (fun I4 J4 k => ?_))
    refine wp_seg (C := gC107) (pc1 := 67) (Lo1 := [some (.ref 0)]) (st1' := [.ref 31]) (w1 := (wv x I4 J4)) rfl 2 rfl ?_
    refine cv_V (mj := 6) (a := 31) (as := []) (r := []) rfl rfl rfl ⟨rfl, by decide, Nat.le_of_ble_eq_true rfl, Nat.le_of_ble_eq_true rfl⟩ rfl (wcV_mono k (fun I5 J5 k => ?_))
    refine wp_seg (C := gC107) (pc1 := 77) (Lo1 := [some (.ref 0)]) (st1' := [.int (I5 3 4)]) (w1 := (wv x I5 J5)) rfl 3 rfl ?_
    exact we_i rfl rfl k
  · have k := k.2 h
    refine wp_seg (C := gC107) (pc1 := 51) (Lo1 := [some (.ref 0)]) (st1' := [.int ((-1 : Int32) - (I3 28 4))]) (w1 := (wv x (mSet I3 0 9 (I3 28 8)) J3)) rfl 5 rfl ?_
    exact we_i rfl rfl k
set_option maxRecDepth 20000 in
theorem v109_0_0 {S : Nat × (Nat → Int32)} {d : Nat} {x : mX} {I : rI0} {J : rJ0} {p1 : Int32} {p2 : Int32} {p3 : Int32} {p4 : Int32} {Q : Int32 → rI0 → rJ0 → Prop} (k : (wcI S d 24 [.ref 4, .int p1] x I J (fun r1 I1 J1 => ((r1 = (0 : Int32) → Q (-1 : Int32) I1 J1) ∧ (¬ r1 = (0 : Int32) → (wcI S d 141 [.int p2] x I1 J1 (fun r2 I2 J2 => ((r2 = (0 : Int32) → Q (-1 : Int32) I2 J2) ∧ (¬ r2 = (0 : Int32) → ((p3 < (0 : Int32) → Q (-1 : Int32) I2 J2) ∧ (¬ p3 < (0 : Int32) → ((p3 < (6 : Int32) → ((p4 < (1 : Int32) → Q (-1 : Int32) I2 J2) ∧ (¬ p4 < (1 : Int32) → (((2 : Int32) < p4 → Q (-1 : Int32) I2 J2) ∧ (¬ (2 : Int32) < p4 → (wcI S d 7 [.ref 31, .int p2] x I2 J2 (fun r3 I3 J3 => ((p4 = (1 : Int32) → (¬ mOut r3 601 ∧ wp S (d + 1) 109 86 [some (.ref 0), some (.int p1), some (.int p2), some (.int p3), some (.int p4), some (.int r3), none, none] [.long (J3 32 r3.toNatClampNeg)] (wv x I3 J3) (rI x Q))) ∧ (¬ p4 = (1 : Int32) → (¬ mOut r3 601 ∧ wp S (d + 1) 109 86 [some (.ref 0), some (.int p1), some (.int p2), some (.int p3), some (.int p4), some (.int r3), none, none] [.long (J3 33 r3.toNatClampNeg)] (wv x I3 J3) (rI x Q))))))))))) ∧ (¬ p3 < (6 : Int32) → Q (-1 : Int32) I2 J2))))))))))))) : wp S (d + 1) 109 0 [some (.ref 0), some (.int p1), some (.int p2), some (.int p3), some (.int p4), none, none, none] [] (wv x I J) (rI x Q) := by
  refine wp_seg (C := gC109) (pc1 := 8) (Lo1 := [some (.ref 0), some (.int p1), some (.int p2), some (.int p3), some (.int p4), none, none, none]) (st1' := [.int p1, .ref 4]) (w1 := (wv x I J)) rfl 4 rfl ?_
  refine cv_I (mj := 24) (a := 4) (as := [.int p1]) (r := []) rfl rfl rfl ⟨rfl, by decide, Nat.le_of_ble_eq_true rfl, Nat.le_of_ble_eq_true rfl⟩ rfl (wcI_mono k (fun r1 I1 J1 k => ?_))
  refine wi_eq (tgt := 21) rfl rfl (fun h => ?_) (fun h => ?_)
  · have k := k.1 h
    refine wp_seg (C := gC109) (pc1 := 22) (Lo1 := [some (.ref 0), some (.int p1), some (.int p2), some (.int p3), some (.int p4), none, none, none]) (st1' := [.int (-1 : Int32)]) (w1 := (wv x I1 J1)) rfl 1 rfl ?_
    exact we_i rfl rfl k
  · have k := k.2 h
    refine wp_seg (C := gC109) (pc1 := 15) (Lo1 := [some (.ref 0), some (.int p1), some (.int p2), some (.int p3), some (.int p4), none, none, none]) (st1' := [.int p2]) (w1 := (wv x I1 J1)) rfl 1 rfl ?_
    refine cs_I (mj := 141) (nn := 0) (as := [.int p2]) (r := []) rfl rfl rfl ⟨rfl, by decide, Nat.le_of_ble_eq_true rfl, Nat.le_of_ble_eq_true rfl⟩ (by decide) (wcI_mono k (fun r2 I2 J2 k => ?_))
    refine wi_ne (tgt := 23) rfl rfl (fun h => ?_) (fun h => ?_)
    · have k := k.1 h
      refine wp_seg (C := gC109) (pc1 := 22) (Lo1 := [some (.ref 0), some (.int p1), some (.int p2), some (.int p3), some (.int p4), none, none, none]) (st1' := [.int (-1 : Int32)]) (w1 := (wv x I2 J2)) rfl 1 rfl ?_
      exact we_i rfl rfl k
    · have k := k.2 h
      refine wp_seg (C := gC109) (pc1 := 24) (Lo1 := [some (.ref 0), some (.int p1), some (.int p2), some (.int p3), some (.int p4), none, none, none]) (st1' := [.int p3]) (w1 := (wv x I2 J2)) rfl 1 rfl ?_
      refine wi_lt (tgt := 45) rfl rfl (fun h => ?_) (fun h => ?_)
      · have k := k.1 h
        refine wp_seg (C := gC109) (pc1 := 46) (Lo1 := [some (.ref 0), some (.int p1), some (.int p2), some (.int p3), some (.int p4), none, none, none]) (st1' := [.int (-1 : Int32)]) (w1 := (wv x I2 J2)) rfl 1 rfl ?_
        exact we_i rfl rfl k
      · have k := k.2 h
        refine wp_seg (C := gC109) (pc1 := 30) (Lo1 := [some (.ref 0), some (.int p1), some (.int p2), some (.int p3), some (.int p4), none, none, none]) (st1' := [.int (6 : Int32), .int p3]) (w1 := (wv x I2 J2)) rfl 2 rfl ?_
        refine wj_ge (tgt := 45) rfl rfl (fun h => ?_) (fun h => ?_)
        · have k := k.1 h
          refine wp_seg (C := gC109) (pc1 := 36) (Lo1 := [some (.ref 0), some (.int p1), some (.int p2), some (.int p3), some (.int p4), none, none, none]) (st1' := [.int (1 : Int32), .int p4]) (w1 := (wv x I2 J2)) rfl 2 rfl ?_
          refine wj_lt (tgt := 45) rfl rfl (fun h => ?_) (fun h => ?_)
          · have k := k.1 h
            refine wp_seg (C := gC109) (pc1 := 46) (Lo1 := [some (.ref 0), some (.int p1), some (.int p2), some (.int p3), some (.int p4), none, none, none]) (st1' := [.int (-1 : Int32)]) (w1 := (wv x I2 J2)) rfl 1 rfl ?_
            exact we_i rfl rfl k
          · have k := k.2 h
            refine wp_seg (C := gC109) (pc1 := 42) (Lo1 := [some (.ref 0), some (.int p1), some (.int p2), some (.int p3), some (.int p4), none, none, none]) (st1' := [.int (2 : Int32), .int p4]) (w1 := (wv x I2 J2)) rfl 2 rfl ?_
            refine wj_le (tgt := 47) rfl rfl (fun h => ?_) (fun h => ?_)
            · have k := k.1 h
              refine wp_seg (C := gC109) (pc1 := 46) (Lo1 := [some (.ref 0), some (.int p1), some (.int p2), some (.int p3), some (.int p4), none, none, none]) (st1' := [.int (-1 : Int32)]) (w1 := (wv x I2 J2)) rfl 1 rfl ?_
              exact we_i rfl rfl k
            · have k := k.2 h
              refine wp_seg (C := gC109) (pc1 := 52) (Lo1 := [some (.ref 0), some (.int p1), some (.int p2), some (.int p3), some (.int p4), none, none, none]) (st1' := [.int p2, .ref 31]) (w1 := (wv x I2 J2)) rfl 3 rfl ?_
              refine cv_I (mj := 7) (a := 31) (as := [.int p2]) (r := []) rfl rfl rfl ⟨rfl, by decide, Nat.le_of_ble_eq_true rfl, Nat.le_of_ble_eq_true rfl⟩ rfl (wcI_mono k (fun r3 I3 J3 k => ?_))
              refine wp_seg (C := gC109) (pc1 := 60) (Lo1 := [some (.ref 0), some (.int p1), some (.int p2), some (.int p3), some (.int p4), some (.int r3), none, none]) (st1' := [.int (1 : Int32), .int p4]) (w1 := (wv x I3 J3)) rfl 3 rfl ?_
              refine wj_ne (tgt := 76) rfl rfl (fun h => ?_) (fun h => ?_)
              · have k := k.1 h
                refine wp_seg (C := gC109) (pc1 := 72) (Lo1 := [some (.ref 0), some (.int p1), some (.int p2), some (.int p3), some (.int p4), some (.int r3), none, none]) (st1' := [.int r3, .ref 32]) (w1 := (wv x I3 J3)) rfl 4 rfl ?_
                refine wa_l (n := 601) rfl rfl k.1 ?_
                have k := k.2
                refine wp_seg (C := gC109) (pc1 := 86) (Lo1 := [some (.ref 0), some (.int p1), some (.int p2), some (.int p3), some (.int p4), some (.int r3), none, none]) (st1' := [.long (J3 32 r3.toNatClampNeg)]) (w1 := (wv x I3 J3)) rfl 1 rfl ?_
                exact k
              · have k := k.2 h
                refine wp_seg (C := gC109) (pc1 := 85) (Lo1 := [some (.ref 0), some (.int p1), some (.int p2), some (.int p3), some (.int p4), some (.int r3), none, none]) (st1' := [.int r3, .ref 33]) (w1 := (wv x I3 J3)) rfl 4 rfl ?_
                refine wa_l (n := 601) rfl rfl k.1 ?_
                have k := k.2
                exact k
        · have k := k.2 h
          refine wp_seg (C := gC109) (pc1 := 46) (Lo1 := [some (.ref 0), some (.int p1), some (.int p2), some (.int p3), some (.int p4), none, none, none]) (st1' := [.int (-1 : Int32)]) (w1 := (wv x I2 J2)) rfl 1 rfl ?_
          exact we_i rfl rfl k
set_option maxRecDepth 20000 in
theorem v109_0_86 {S : Nat × (Nat → Int32)} {d : Nat} {x : mX} {I : rI0} {J : rJ0} {l1 : Int32} {l2 : Int32} {l3 : Int32} {l4 : Int32} {l5 : Int32} {s0 : Int64} {Q : Int32 → rI0 → rJ0 → Prop} (k : (¬ mOut ((l3 * (64 : Int32)) + l1) 384 ∧ (wcI S d 250 [.long (s0 &&& (J 11 (((l3 * (64 : Int32)) + l1).toNatClampNeg)))] x I J (fun r1 I1 J1 => Q r1 I1 J1)))) : wp S (d + 1) 109 86 [some (.ref 0), some (.int l1), some (.int l2), some (.int l3), some (.int l4), some (.int l5), none, none] [.long s0] (wv x I J) (rI x Q) := by
  refine wp_seg (C := gC109) (pc1 := 106) (Lo1 := [some (.ref 0), some (.int l1), some (.int l2), some (.int l3), some (.int l4), some (.int l5), some (.long s0), none]) (st1' := [.int ((l3 * (64 : Int32)) + l1), .ref 11, .long s0]) (w1 := (wv x I J)) rfl 11 rfl ?_
  refine wa_l (n := 384) rfl rfl k.1 ?_
  have k := k.2
  refine wp_seg (C := gC109) (pc1 := 108) (Lo1 := [some (.ref 0), some (.int l1), some (.int l2), some (.int l3), some (.int l4), some (.int l5), some (.long s0), none]) (st1' := [.long (s0 &&& (J 11 (((l3 * (64 : Int32)) + l1).toNatClampNeg)))]) (w1 := (wv x I J)) rfl 1 rfl ?_
  refine cs_I (mj := 250) (nn := 0) (as := [.long (s0 &&& (J 11 (((l3 * (64 : Int32)) + l1).toNatClampNeg)))]) (r := []) rfl rfl rfl ⟨rfl, by decide, Nat.le_of_ble_eq_true rfl, Nat.le_of_ble_eq_true rfl⟩ (by decide) (wcI_mono k (fun r1 I1 J1 k => ?_))
  exact we_i rfl rfl k
set_option maxRecDepth 20000 in
theorem v110_0_0 {S : Nat × (Nat → Int32)} {d : Nat} {x : mX} {I : rI0} {J : rJ0} {p1 : Int32} {p2 : Int32} {p3 : Int32} {Q : Int32 → rI0 → rJ0 → Prop} (k : (wcI S d 24 [.ref 4, .int p1] x I J (fun r1 I1 J1 => ((r1 = (0 : Int32) → Q (-1 : Int32) I1 J1) ∧ (¬ r1 = (0 : Int32) → (wcI S d 141 [.int p2] x I1 J1 (fun r2 I2 J2 => ((r2 = (0 : Int32) → Q (-1 : Int32) I2 J2) ∧ (¬ r2 = (0 : Int32) → ((p3 < (0 : Int32) → Q (-1 : Int32) I2 J2) ∧ (¬ p3 < (0 : Int32) → (((1 : Int32) < p3 → Q (-1 : Int32) I2 J2) ∧ (¬ (1 : Int32) < p3 → (wcI S d 7 [.ref 31, .int p2] x I2 J2 (fun r3 I3 J3 => ((p3 = (0 : Int32) → (¬ mOut r3 601 ∧ (wcI S d 142 [.long (J3 32 r3.toNatClampNeg), .int p1] x I3 J3 (fun r4 I4 J4 => (¬ mOut r3 601 ∧ (wcI S d 142 [.long (J4 33 r3.toNatClampNeg), .int p1] x I4 J4 (fun r5 I5 J5 => Q (r4 + r5) I5 J5))))))) ∧ (¬ p3 = (0 : Int32) → (¬ mOut r3 601 ∧ (wcI S d 142 [.long (J3 34 r3.toNatClampNeg), .int p1] x I3 J3 (fun r6 I6 J6 => (¬ mOut r3 601 ∧ (wcI S d 142 [.long (J6 35 r3.toNatClampNeg), .int p1] x I6 J6 (fun r7 I7 J7 => Q (r6 + ((2 : Int32) * r7)) I7 J7))))))))))))))))))))))) : wp S (d + 1) 110 0 [some (.ref 0), some (.int p1), some (.int p2), some (.int p3), none] [] (wv x I J) (rI x Q) := by
  refine wp_seg (C := gC110) (pc1 := 8) (Lo1 := [some (.ref 0), some (.int p1), some (.int p2), some (.int p3), none]) (st1' := [.int p1, .ref 4]) (w1 := (wv x I J)) rfl 4 rfl ?_
  refine cv_I (mj := 24) (a := 4) (as := [.int p1]) (r := []) rfl rfl rfl ⟨rfl, by decide, Nat.le_of_ble_eq_true rfl, Nat.le_of_ble_eq_true rfl⟩ rfl (wcI_mono k (fun r1 I1 J1 k => ?_))
  refine wi_eq (tgt := 30) rfl rfl (fun h => ?_) (fun h => ?_)
  · have k := k.1 h
    refine wp_seg (C := gC110) (pc1 := 31) (Lo1 := [some (.ref 0), some (.int p1), some (.int p2), some (.int p3), none]) (st1' := [.int (-1 : Int32)]) (w1 := (wv x I1 J1)) rfl 1 rfl ?_
    exact we_i rfl rfl k
  · have k := k.2 h
    refine wp_seg (C := gC110) (pc1 := 15) (Lo1 := [some (.ref 0), some (.int p1), some (.int p2), some (.int p3), none]) (st1' := [.int p2]) (w1 := (wv x I1 J1)) rfl 1 rfl ?_
    refine cs_I (mj := 141) (nn := 0) (as := [.int p2]) (r := []) rfl rfl rfl ⟨rfl, by decide, Nat.le_of_ble_eq_true rfl, Nat.le_of_ble_eq_true rfl⟩ (by decide) (wcI_mono k (fun r2 I2 J2 k => ?_))
    refine wi_eq (tgt := 30) rfl rfl (fun h => ?_) (fun h => ?_)
    · have k := k.1 h
      refine wp_seg (C := gC110) (pc1 := 31) (Lo1 := [some (.ref 0), some (.int p1), some (.int p2), some (.int p3), none]) (st1' := [.int (-1 : Int32)]) (w1 := (wv x I2 J2)) rfl 1 rfl ?_
      exact we_i rfl rfl k
    · have k := k.2 h
      refine wp_seg (C := gC110) (pc1 := 22) (Lo1 := [some (.ref 0), some (.int p1), some (.int p2), some (.int p3), none]) (st1' := [.int p3]) (w1 := (wv x I2 J2)) rfl 1 rfl ?_
      refine wi_lt (tgt := 30) rfl rfl (fun h => ?_) (fun h => ?_)
      · have k := k.1 h
        refine wp_seg (C := gC110) (pc1 := 31) (Lo1 := [some (.ref 0), some (.int p1), some (.int p2), some (.int p3), none]) (st1' := [.int (-1 : Int32)]) (w1 := (wv x I2 J2)) rfl 1 rfl ?_
        exact we_i rfl rfl k
      · have k := k.2 h
        refine wp_seg (C := gC110) (pc1 := 27) (Lo1 := [some (.ref 0), some (.int p1), some (.int p2), some (.int p3), none]) (st1' := [.int (1 : Int32), .int p3]) (w1 := (wv x I2 J2)) rfl 2 rfl ?_
        refine wj_le (tgt := 32) rfl rfl (fun h => ?_) (fun h => ?_)
        · have k := k.1 h
          refine wp_seg (C := gC110) (pc1 := 31) (Lo1 := [some (.ref 0), some (.int p1), some (.int p2), some (.int p3), none]) (st1' := [.int (-1 : Int32)]) (w1 := (wv x I2 J2)) rfl 1 rfl ?_
          exact we_i rfl rfl k
        · have k := k.2 h
          refine wp_seg (C := gC110) (pc1 := 37) (Lo1 := [some (.ref 0), some (.int p1), some (.int p2), some (.int p3), none]) (st1' := [.int p2, .ref 31]) (w1 := (wv x I2 J2)) rfl 3 rfl ?_
          refine cv_I (mj := 7) (a := 31) (as := [.int p2]) (r := []) rfl rfl rfl ⟨rfl, by decide, Nat.le_of_ble_eq_true rfl, Nat.le_of_ble_eq_true rfl⟩ rfl (wcI_mono k (fun r3 I3 J3 k => ?_))
          refine wp_seg (C := gC110) (pc1 := 43) (Lo1 := [some (.ref 0), some (.int p1), some (.int p2), some (.int p3), some (.int r3)]) (st1' := [.int p3]) (w1 := (wv x I3 J3)) rfl 2 rfl ?_
          refine wi_ne (tgt := 76) rfl rfl (fun h => ?_) (fun h => ?_)
          · have k := k.1 h
            refine wp_seg (C := gC110) (pc1 := 55) (Lo1 := [some (.ref 0), some (.int p1), some (.int p2), some (.int p3), some (.int r3)]) (st1' := [.int r3, .ref 32]) (w1 := (wv x I3 J3)) rfl 4 rfl ?_
            refine wa_l (n := 601) rfl rfl k.1 ?_
            have k := k.2
            refine wp_seg (C := gC110) (pc1 := 57) (Lo1 := [some (.ref 0), some (.int p1), some (.int p2), some (.int p3), some (.int r3)]) (st1' := [.int p1, .long (J3 32 r3.toNatClampNeg)]) (w1 := (wv x I3 J3)) rfl 1 rfl ?_
            refine cs_I (mj := 142) (nn := 0) (as := [.long (J3 32 r3.toNatClampNeg), .int p1]) (r := []) rfl rfl rfl ⟨rfl, by decide, Nat.le_of_ble_eq_true rfl, Nat.le_of_ble_eq_true rfl⟩ (by decide) (wcI_mono k (fun r4 I4 J4 k => ?_))
            refine wp_seg (C := gC110) (pc1 := 69) (Lo1 := [some (.ref 0), some (.int p1), some (.int p2), some (.int p3), some (.int r3)]) (st1' := [.int r3, .ref 33, .int r4]) (w1 := (wv x I4 J4)) rfl 4 rfl ?_
            refine wa_l (n := 601) rfl rfl k.1 ?_
            have k := k.2
            refine wp_seg (C := gC110) (pc1 := 71) (Lo1 := [some (.ref 0), some (.int p1), some (.int p2), some (.int p3), some (.int r3)]) (st1' := [.int p1, .long (J4 33 r3.toNatClampNeg), .int r4]) (w1 := (wv x I4 J4)) rfl 1 rfl ?_
            refine cs_I (mj := 142) (nn := 0) (as := [.long (J4 33 r3.toNatClampNeg), .int p1]) (r := [.int r4]) rfl rfl rfl ⟨rfl, by decide, Nat.le_of_ble_eq_true rfl, Nat.le_of_ble_eq_true rfl⟩ (by decide) (wcI_mono k (fun r5 I5 J5 k => ?_))
            refine wp_seg (C := gC110) (pc1 := 75) (Lo1 := [some (.ref 0), some (.int p1), some (.int p2), some (.int p3), some (.int r3)]) (st1' := [.int (r4 + r5)]) (w1 := (wv x I5 J5)) rfl 1 rfl ?_
            exact we_i rfl rfl k
          · have k := k.2 h
            refine wp_seg (C := gC110) (pc1 := 85) (Lo1 := [some (.ref 0), some (.int p1), some (.int p2), some (.int p3), some (.int r3)]) (st1' := [.int r3, .ref 34]) (w1 := (wv x I3 J3)) rfl 4 rfl ?_
            refine wa_l (n := 601) rfl rfl k.1 ?_
            have k := k.2
            refine wp_seg (C := gC110) (pc1 := 87) (Lo1 := [some (.ref 0), some (.int p1), some (.int p2), some (.int p3), some (.int r3)]) (st1' := [.int p1, .long (J3 34 r3.toNatClampNeg)]) (w1 := (wv x I3 J3)) rfl 1 rfl ?_
            refine cs_I (mj := 142) (nn := 0) (as := [.long (J3 34 r3.toNatClampNeg), .int p1]) (r := []) rfl rfl rfl ⟨rfl, by decide, Nat.le_of_ble_eq_true rfl, Nat.le_of_ble_eq_true rfl⟩ (by decide) (wcI_mono k (fun r6 I6 J6 k => ?_))
            refine wp_seg (C := gC110) (pc1 := 100) (Lo1 := [some (.ref 0), some (.int p1), some (.int p2), some (.int p3), some (.int r3)]) (st1' := [.int r3, .ref 35, .int (2 : Int32), .int r6]) (w1 := (wv x I6 J6)) rfl 5 rfl ?_
            refine wa_l (n := 601) rfl rfl k.1 ?_
            have k := k.2
            refine wp_seg (C := gC110) (pc1 := 102) (Lo1 := [some (.ref 0), some (.int p1), some (.int p2), some (.int p3), some (.int r3)]) (st1' := [.int p1, .long (J6 35 r3.toNatClampNeg), .int (2 : Int32), .int r6]) (w1 := (wv x I6 J6)) rfl 1 rfl ?_
            refine cs_I (mj := 142) (nn := 0) (as := [.long (J6 35 r3.toNatClampNeg), .int p1]) (r := [.int (2 : Int32), .int r6]) rfl rfl rfl ⟨rfl, by decide, Nat.le_of_ble_eq_true rfl, Nat.le_of_ble_eq_true rfl⟩ (by decide) (wcI_mono k (fun r7 I7 J7 k => ?_))
            refine wp_seg (C := gC110) (pc1 := 107) (Lo1 := [some (.ref 0), some (.int p1), some (.int p2), some (.int p3), some (.int r3)]) (st1' := [.int (r6 + ((2 : Int32) * r7))]) (w1 := (wv x I7 J7)) rfl 2 rfl ?_
            exact we_i rfl rfl k
set_option maxRecDepth 20000 in
theorem v111_0_0 {S : Nat × (Nat → Int32)} {d : Nat} {x : mX} {I : rI0} {J : rJ0} {p1 : Int32} {p2 : Int32} {Q : Int32 → rI0 → rJ0 → Prop} (k : (wcI S d 141 [.int p1] x I J (fun r1 I1 J1 => ((r1 = (0 : Int32) → Q (-1 : Int32) I1 J1) ∧ (¬ r1 = (0 : Int32) → ((p2 < (0 : Int32) → Q (-1 : Int32) I1 J1) ∧ (¬ p2 < (0 : Int32) → (((2 : Int32) < p2 → Q (-1 : Int32) I1 J1) ∧ (¬ (2 : Int32) < p2 → ((p2 = (0 : Int32) → (wcI S d 250 [.long (J1 4 5)] x I1 J1 (fun r2 I2 J2 => Q r2 I2 J2))) ∧ (¬ p2 = (0 : Int32) → (wcI S d 7 [.ref 31, .int p1] x I1 J1 (fun r3 I3 J3 => ((p2 = (1 : Int32) → (¬ mOut r3 601 ∧ (wcI S d 250 [.long (J3 32 r3.toNatClampNeg)] x I3 J3 (fun r4 I4 J4 => Q r4 I4 J4)))) ∧ (¬ p2 = (1 : Int32) → (¬ mOut r3 601 ∧ (wcI S d 250 [.long (J3 33 r3.toNatClampNeg)] x I3 J3 (fun r5 I5 J5 => Q r5 I5 J5)))))))))))))))))) : wp S (d + 1) 111 0 [some (.ref 0), some (.int p1), some (.int p2), none] [] (wv x I J) (rI x Q) := by
  refine wp_seg (C := gC111) (pc1 := 1) (Lo1 := [some (.ref 0), some (.int p1), some (.int p2), none]) (st1' := [.int p1]) (w1 := (wv x I J)) rfl 1 rfl ?_
  refine cs_I (mj := 141) (nn := 0) (as := [.int p1]) (r := []) rfl rfl rfl ⟨rfl, by decide, Nat.le_of_ble_eq_true rfl, Nat.le_of_ble_eq_true rfl⟩ (by decide) (wcI_mono k (fun r1 I1 J1 k => ?_))
  refine wi_eq (tgt := 16) rfl rfl (fun h => ?_) (fun h => ?_)
  · have k := k.1 h
    refine wp_seg (C := gC111) (pc1 := 17) (Lo1 := [some (.ref 0), some (.int p1), some (.int p2), none]) (st1' := [.int (-1 : Int32)]) (w1 := (wv x I1 J1)) rfl 1 rfl ?_
    exact we_i rfl rfl k
  · have k := k.2 h
    refine wp_seg (C := gC111) (pc1 := 8) (Lo1 := [some (.ref 0), some (.int p1), some (.int p2), none]) (st1' := [.int p2]) (w1 := (wv x I1 J1)) rfl 1 rfl ?_
    refine wi_lt (tgt := 16) rfl rfl (fun h => ?_) (fun h => ?_)
    · have k := k.1 h
      refine wp_seg (C := gC111) (pc1 := 17) (Lo1 := [some (.ref 0), some (.int p1), some (.int p2), none]) (st1' := [.int (-1 : Int32)]) (w1 := (wv x I1 J1)) rfl 1 rfl ?_
      exact we_i rfl rfl k
    · have k := k.2 h
      refine wp_seg (C := gC111) (pc1 := 13) (Lo1 := [some (.ref 0), some (.int p1), some (.int p2), none]) (st1' := [.int (2 : Int32), .int p2]) (w1 := (wv x I1 J1)) rfl 2 rfl ?_
      refine wj_le (tgt := 18) rfl rfl (fun h => ?_) (fun h => ?_)
      · have k := k.1 h
        refine wp_seg (C := gC111) (pc1 := 17) (Lo1 := [some (.ref 0), some (.int p1), some (.int p2), none]) (st1' := [.int (-1 : Int32)]) (w1 := (wv x I1 J1)) rfl 1 rfl ?_
        exact we_i rfl rfl k
      · have k := k.2 h
        refine wp_seg (C := gC111) (pc1 := 19) (Lo1 := [some (.ref 0), some (.int p1), some (.int p2), none]) (st1' := [.int p2]) (w1 := (wv x I1 J1)) rfl 1 rfl ?_
        refine wi_ne (tgt := 36) rfl rfl (fun h => ?_) (fun h => ?_)
        · have k := k.1 h
          refine wp_seg (C := gC111) (pc1 := 32) (Lo1 := [some (.ref 0), some (.int p1), some (.int p2), none]) (st1' := [.long (J1 4 5)]) (w1 := (wv x I1 J1)) rfl 4 rfl ?_
          refine cs_I (mj := 250) (nn := 0) (as := [.long (J1 4 5)]) (r := []) rfl rfl rfl ⟨rfl, by decide, Nat.le_of_ble_eq_true rfl, Nat.le_of_ble_eq_true rfl⟩ (by decide) (wcI_mono k (fun r2 I2 J2 k => ?_))
          exact we_i rfl rfl k
        · have k := k.2 h
          refine wp_seg (C := gC111) (pc1 := 41) (Lo1 := [some (.ref 0), some (.int p1), some (.int p2), none]) (st1' := [.int p1, .ref 31]) (w1 := (wv x I1 J1)) rfl 3 rfl ?_
          refine cv_I (mj := 7) (a := 31) (as := [.int p1]) (r := []) rfl rfl rfl ⟨rfl, by decide, Nat.le_of_ble_eq_true rfl, Nat.le_of_ble_eq_true rfl⟩ rfl (wcI_mono k (fun r3 I3 J3 k => ?_))
          refine wp_seg (C := gC111) (pc1 := 47) (Lo1 := [some (.ref 0), some (.int p1), some (.int p2), some (.int r3)]) (st1' := [.int (1 : Int32), .int p2]) (w1 := (wv x I3 J3)) rfl 3 rfl ?_
          refine wj_ne (tgt := 62) rfl rfl (fun h => ?_) (fun h => ?_)
          · have k := k.1 h
            refine wp_seg (C := gC111) (pc1 := 58) (Lo1 := [some (.ref 0), some (.int p1), some (.int p2), some (.int r3)]) (st1' := [.int r3, .ref 32]) (w1 := (wv x I3 J3)) rfl 4 rfl ?_
            refine wa_l (n := 601) rfl rfl k.1 ?_
            have k := k.2
            refine wp_seg (C := gC111) (pc1 := 71) (Lo1 := [some (.ref 0), some (.int p1), some (.int p2), some (.int r3)]) (st1' := [.long (J3 32 r3.toNatClampNeg)]) (w1 := (wv x I3 J3)) rfl 1 rfl ?_
            refine cs_I (mj := 250) (nn := 0) (as := [.long (J3 32 r3.toNatClampNeg)]) (r := []) rfl rfl rfl ⟨rfl, by decide, Nat.le_of_ble_eq_true rfl, Nat.le_of_ble_eq_true rfl⟩ (by decide) (wcI_mono k (fun r4 I4 J4 k => ?_))
            exact we_i rfl rfl k
          · have k := k.2 h
            refine wp_seg (C := gC111) (pc1 := 70) (Lo1 := [some (.ref 0), some (.int p1), some (.int p2), some (.int r3)]) (st1' := [.int r3, .ref 33]) (w1 := (wv x I3 J3)) rfl 4 rfl ?_
            refine wa_l (n := 601) rfl rfl k.1 ?_
            have k := k.2
            refine cs_I (mj := 250) (nn := 0) (as := [.long (J3 33 r3.toNatClampNeg)]) (r := []) rfl rfl rfl ⟨rfl, by decide, Nat.le_of_ble_eq_true rfl, Nat.le_of_ble_eq_true rfl⟩ (by decide) (wcI_mono k (fun r5 I5 J5 k => ?_))
            exact we_i rfl rfl k
set_option maxRecDepth 20000 in
theorem v112_0_0 {S : Nat × (Nat → Int32)} {d : Nat} {x : mX} {I : rI0} {J : rJ0} {p1 : Int32} {p2 : Int32} {p3 : Int32} {Q : Int32 → rI0 → rJ0 → Prop} (k : (wcI S d 24 [.ref 4, .int p1] x I J (fun r1 I1 J1 => ((r1 = (0 : Int32) → Q (-1 : Int32) I1 J1) ∧ (¬ r1 = (0 : Int32) → (wcI S d 141 [.int p2] x I1 J1 (fun r2 I2 J2 => ((r2 = (0 : Int32) → Q (-1 : Int32) I2 J2) ∧ (¬ r2 = (0 : Int32) → ((p3 < (0 : Int32) → Q (-1 : Int32) I2 J2) ∧ (¬ p3 < (0 : Int32) → (((1 : Int32) < p3 → Q (-1 : Int32) I2 J2) ∧ (¬ (1 : Int32) < p3 → (¬ mOut p1 64 ∧ (¬ mOut (((2 : Int32) * (I2 5 p1.toNatClampNeg)) + p3) 12 ∧ (((I2 9 ((((2 : Int32) * (I2 5 p1.toNatClampNeg)) + p3).toNatClampNeg)) = (-1 : Int32) → Q (-1 : Int32) I2 J2) ∧ (¬ (I2 9 ((((2 : Int32) * (I2 5 p1.toNatClampNeg)) + p3).toNatClampNeg)) = (-1 : Int32) → (wcI S d 7 [.ref 31, .int p2] x I2 J2 (fun r3 I3 J3 => (wcV S d 50 [.ref 41, .ref 31, .int r3] x I3 J3 (fun I4 J4 => (wcI S d 51 [.ref 41, .int (((2 : Int32) * (I2 5 p1.toNatClampNeg)) + p3), .int p1] x I4 J4 (fun r5 I5 J5 => ((r5 = (0 : Int32) → Q (0 : Int32) I5 J5) ∧ (¬ r5 = (0 : Int32) → Q (1 : Int32) I5 J5))))))))))))))))))))))))) : wp S (d + 1) 112 0 [some (.ref 0), some (.int p1), some (.int p2), some (.int p3), none] [] (wv x I J) (rI x Q) := by
  refine wp_seg (C := gC112) (pc1 := 8) (Lo1 := [some (.ref 0), some (.int p1), some (.int p2), some (.int p3), none]) (st1' := [.int p1, .ref 4]) (w1 := (wv x I J)) rfl 4 rfl ?_
  refine cv_I (mj := 24) (a := 4) (as := [.int p1]) (r := []) rfl rfl rfl ⟨rfl, by decide, Nat.le_of_ble_eq_true rfl, Nat.le_of_ble_eq_true rfl⟩ rfl (wcI_mono k (fun r1 I1 J1 k => ?_))
  refine wi_eq (tgt := 30) rfl rfl (fun h => ?_) (fun h => ?_)
  · have k := k.1 h
    refine wp_seg (C := gC112) (pc1 := 31) (Lo1 := [some (.ref 0), some (.int p1), some (.int p2), some (.int p3), none]) (st1' := [.int (-1 : Int32)]) (w1 := (wv x I1 J1)) rfl 1 rfl ?_
    exact we_i rfl rfl k
  · have k := k.2 h
    refine wp_seg (C := gC112) (pc1 := 15) (Lo1 := [some (.ref 0), some (.int p1), some (.int p2), some (.int p3), none]) (st1' := [.int p2]) (w1 := (wv x I1 J1)) rfl 1 rfl ?_
    refine cs_I (mj := 141) (nn := 0) (as := [.int p2]) (r := []) rfl rfl rfl ⟨rfl, by decide, Nat.le_of_ble_eq_true rfl, Nat.le_of_ble_eq_true rfl⟩ (by decide) (wcI_mono k (fun r2 I2 J2 k => ?_))
    refine wi_eq (tgt := 30) rfl rfl (fun h => ?_) (fun h => ?_)
    · have k := k.1 h
      refine wp_seg (C := gC112) (pc1 := 31) (Lo1 := [some (.ref 0), some (.int p1), some (.int p2), some (.int p3), none]) (st1' := [.int (-1 : Int32)]) (w1 := (wv x I2 J2)) rfl 1 rfl ?_
      exact we_i rfl rfl k
    · have k := k.2 h
      refine wp_seg (C := gC112) (pc1 := 22) (Lo1 := [some (.ref 0), some (.int p1), some (.int p2), some (.int p3), none]) (st1' := [.int p3]) (w1 := (wv x I2 J2)) rfl 1 rfl ?_
      refine wi_lt (tgt := 30) rfl rfl (fun h => ?_) (fun h => ?_)
      · have k := k.1 h
        refine wp_seg (C := gC112) (pc1 := 31) (Lo1 := [some (.ref 0), some (.int p1), some (.int p2), some (.int p3), none]) (st1' := [.int (-1 : Int32)]) (w1 := (wv x I2 J2)) rfl 1 rfl ?_
        exact we_i rfl rfl k
      · have k := k.2 h
        refine wp_seg (C := gC112) (pc1 := 27) (Lo1 := [some (.ref 0), some (.int p1), some (.int p2), some (.int p3), none]) (st1' := [.int (1 : Int32), .int p3]) (w1 := (wv x I2 J2)) rfl 2 rfl ?_
        refine wj_le (tgt := 32) rfl rfl (fun h => ?_) (fun h => ?_)
        · have k := k.1 h
          refine wp_seg (C := gC112) (pc1 := 31) (Lo1 := [some (.ref 0), some (.int p1), some (.int p2), some (.int p3), none]) (st1' := [.int (-1 : Int32)]) (w1 := (wv x I2 J2)) rfl 1 rfl ?_
          exact we_i rfl rfl k
        · have k := k.2 h
          refine wp_seg (C := gC112) (pc1 := 44) (Lo1 := [some (.ref 0), some (.int p1), some (.int p2), some (.int p3), none]) (st1' := [.int p1, .ref 5, .int (2 : Int32)]) (w1 := (wv x I2 J2)) rfl 6 rfl ?_
          refine wa_i (n := 64) rfl (by decide) rfl k.1 ?_
          have k := k.2
          refine wp_seg (C := gC112) (pc1 := 62) (Lo1 := [some (.ref 0), some (.int p1), some (.int p2), some (.int p3), some (.int (((2 : Int32) * (I2 5 p1.toNatClampNeg)) + p3))]) (st1' := [.int (((2 : Int32) * (I2 5 p1.toNatClampNeg)) + p3), .ref 9]) (w1 := (wv x I2 J2)) rfl 9 rfl ?_
          refine wa_i (n := 12) rfl (by decide) rfl k.1 ?_
          have k := k.2
          refine wp_seg (C := gC112) (pc1 := 64) (Lo1 := [some (.ref 0), some (.int p1), some (.int p2), some (.int p3), some (.int (((2 : Int32) * (I2 5 p1.toNatClampNeg)) + p3))]) (st1' := [.int (-1 : Int32), .int (I2 9 ((((2 : Int32) * (I2 5 p1.toNatClampNeg)) + p3).toNatClampNeg))]) (w1 := (wv x I2 J2)) rfl 1 rfl ?_
          refine wj_ne (tgt := 69) rfl rfl (fun h => ?_) (fun h => ?_)
          · have k := k.1 h
            refine wp_seg (C := gC112) (pc1 := 68) (Lo1 := [some (.ref 0), some (.int p1), some (.int p2), some (.int p3), some (.int (((2 : Int32) * (I2 5 p1.toNatClampNeg)) + p3))]) (st1' := [.int (-1 : Int32)]) (w1 := (wv x I2 J2)) rfl 1 rfl ?_
            exact we_i rfl rfl k
          · have k := k.2 h
            refine wp_seg (C := gC112) (pc1 := 85) (Lo1 := [some (.ref 0), some (.int p1), some (.int p2), some (.int p3), some (.int (((2 : Int32) * (I2 5 p1.toNatClampNeg)) + p3))]) (st1' := [.int p2, .ref 31, .ref 31, .ref 41]) (w1 := (wv x I2 J2)) rfl 8 rfl ?_
            refine cv_I (mj := 7) (a := 31) (as := [.int p2]) (r := [.ref 31, .ref 41]) rfl rfl rfl ⟨rfl, by decide, Nat.le_of_ble_eq_true rfl, Nat.le_of_ble_eq_true rfl⟩ rfl (wcI_mono k (fun r3 I3 J3 k => ?_))
            refine cv_V (mj := 50) (a := 41) (as := [.ref 31, .int r3]) (r := []) rfl rfl rfl ⟨rfl, by decide, Nat.le_of_ble_eq_true rfl, Nat.le_of_ble_eq_true rfl⟩ rfl (wcV_mono k (fun I4 J4 k => ?_))
            refine wp_seg (C := gC112) (pc1 := 101) (Lo1 := [some (.ref 0), some (.int p1), some (.int p2), some (.int p3), some (.int (((2 : Int32) * (I2 5 p1.toNatClampNeg)) + p3))]) (st1' := [.int p1, .int (((2 : Int32) * (I2 5 p1.toNatClampNeg)) + p3), .ref 41]) (w1 := (wv x I4 J4)) rfl 5 rfl ?_
            refine cv_I (mj := 51) (a := 41) (as := [.int (((2 : Int32) * (I2 5 p1.toNatClampNeg)) + p3), .int p1]) (r := []) rfl rfl rfl ⟨rfl, by decide, Nat.le_of_ble_eq_true rfl, Nat.le_of_ble_eq_true rfl⟩ rfl (wcI_mono k (fun r5 I5 J5 k => ?_))
            refine wi_eq (tgt := 111) rfl rfl (fun h => ?_) (fun h => ?_)
            · have k := k.1 h
              refine wp_seg (C := gC112) (pc1 := 112) (Lo1 := [some (.ref 0), some (.int p1), some (.int p2), some (.int p3), some (.int (((2 : Int32) * (I2 5 p1.toNatClampNeg)) + p3))]) (st1' := [.int (0 : Int32)]) (w1 := (wv x I5 J5)) rfl 1 rfl ?_
              exact we_i rfl rfl k
            · have k := k.2 h
              refine wp_seg (C := gC112) (pc1 := 112) (Lo1 := [some (.ref 0), some (.int p1), some (.int p2), some (.int p3), some (.int (((2 : Int32) * (I2 5 p1.toNatClampNeg)) + p3))]) (st1' := [.int (1 : Int32)]) (w1 := (wv x I5 J5)) rfl 2 rfl ?_
              exact we_i rfl rfl k
set_option maxRecDepth 20000 in
theorem v113_0_0 {S : Nat × (Nat → Int32)} {d : Nat} {x : mX} {I : rI0} {J : rJ0} {p1 : Int32} {Q : Int32 → rI0 → rJ0 → Prop} (k : (wcI S d 24 [.ref 4, .int p1] x I J (fun r1 I1 J1 => ((r1 = (0 : Int32) → Q (-1 : Int32) I1 J1) ∧ (¬ r1 = (0 : Int32) → wp S (d + 1) 113 18 [some (.ref 0), some (.int p1), some (.int (0 : Int32)), none] [] (wv x I1 J1) (rI x Q)))))) : wp S (d + 1) 113 0 [some (.ref 0), some (.int p1), none, none] [] (wv x I J) (rI x Q) := by
  refine wp_seg (C := gC113) (pc1 := 8) (Lo1 := [some (.ref 0), some (.int p1), none, none]) (st1' := [.int p1, .ref 4]) (w1 := (wv x I J)) rfl 4 rfl ?_
  refine cv_I (mj := 24) (a := 4) (as := [.int p1]) (r := []) rfl rfl rfl ⟨rfl, by decide, Nat.le_of_ble_eq_true rfl, Nat.le_of_ble_eq_true rfl⟩ rfl (wcI_mono k (fun r1 I1 J1 k => ?_))
  refine wi_ne (tgt := 16) rfl rfl (fun h => ?_) (fun h => ?_)
  · have k := k.1 h
    refine wp_seg (C := gC113) (pc1 := 15) (Lo1 := [some (.ref 0), some (.int p1), none, none]) (st1' := [.int (-1 : Int32)]) (w1 := (wv x I1 J1)) rfl 1 rfl ?_
    exact we_i rfl rfl k
  · have k := k.2 h
    refine wp_seg (C := gC113) (pc1 := 18) (Lo1 := [some (.ref 0), some (.int p1), some (.int (0 : Int32)), none]) (st1' := []) (w1 := (wv x I1 J1)) rfl 2 rfl ?_
    exact k
set_option maxRecDepth 20000 in
theorem v113_0_18 {S : Nat × (Nat → Int32)} {d : Nat} {x : mX} {I : rI0} {J : rJ0} {l1 : Int32} {l2 : Int32} {Q : Int32 → rI0 → rJ0 → Prop} (k : (((600 : Int32) < l2 → Q (-1 : Int32) I J) ∧ (¬ (600 : Int32) < l2 → (wcI S d 7 [.ref 31, .int l2] x I J (fun r1 I1 J1 => ((r1 < l2 → Q (-1 : Int32) I1 J1) ∧ (¬ r1 < l2 → (¬ mOut r1 601 ∧ (wcI S d 142 [.long (J1 33 r1.toNatClampNeg), .int l1] x I1 J1 (fun r2 I2 J2 => ((r2 = (1 : Int32) → Q l2 I2 J2) ∧ (¬ r2 = (1 : Int32) → wp S (d + 1) 113 18 [some (.ref 0), some (.int l1), some (.int (l2 + (1 : Int32))), none] [] (wv x I2 J2) (rI x Q))))))))))))) : wp S (d + 1) 113 18 [some (.ref 0), some (.int l1), some (.int l2), none] [] (wv x I J) (rI x Q) := by
  refine wp_seg (C := gC113) (pc1 := 22) (Lo1 := [some (.ref 0), some (.int l1), some (.int l2), none]) (st1' := [.int (600 : Int32), .int l2]) (w1 := (wv x I J)) rfl 2 rfl ?_
  refine wj_gt (tgt := 66) rfl rfl (fun h => ?_) (fun h => ?_)
  · have k := k.1 h
    refine wp_seg (C := gC113) (pc1 := 67) (Lo1 := [some (.ref 0), some (.int l1), some (.int l2), none]) (st1' := [.int (-1 : Int32)]) (w1 := (wv x I J)) rfl 1 rfl ?_
    exact we_i rfl rfl k
  · have k := k.2 h
    refine wp_seg (C := gC113) (pc1 := 30) (Lo1 := [some (.ref 0), some (.int l1), some (.int l2), none]) (st1' := [.int l2, .ref 31]) (w1 := (wv x I J)) rfl 3 rfl ?_
    refine cv_I (mj := 7) (a := 31) (as := [.int l2]) (r := []) rfl rfl rfl ⟨rfl, by decide, Nat.le_of_ble_eq_true rfl, Nat.le_of_ble_eq_true rfl⟩ rfl (wcI_mono k (fun r1 I1 J1 k => ?_))
    refine wp_seg (C := gC113) (pc1 := 36) (Lo1 := [some (.ref 0), some (.int l1), some (.int l2), some (.int r1)]) (st1' := [.int l2, .int r1]) (w1 := (wv x I1 J1)) rfl 3 rfl ?_
    refine wj_ge (tgt := 41) rfl rfl (fun h => ?_) (fun h => ?_)
    · have k := k.1 h
      refine wp_seg (C := gC113) (pc1 := 40) (Lo1 := [some (.ref 0), some (.int l1), some (.int l2), some (.int r1)]) (st1' := [.int (-1 : Int32)]) (w1 := (wv x I1 J1)) rfl 1 rfl ?_
      exact we_i rfl rfl k
    · have k := k.2 h
      refine wp_seg (C := gC113) (pc1 := 49) (Lo1 := [some (.ref 0), some (.int l1), some (.int l2), some (.int r1)]) (st1' := [.int r1, .ref 33]) (w1 := (wv x I1 J1)) rfl 4 rfl ?_
      refine wa_l (n := 601) rfl rfl k.1 ?_
      have k := k.2
      refine wp_seg (C := gC113) (pc1 := 51) (Lo1 := [some (.ref 0), some (.int l1), some (.int l2), some (.int r1)]) (st1' := [.int l1, .long (J1 33 r1.toNatClampNeg)]) (w1 := (wv x I1 J1)) rfl 1 rfl ?_
      refine cs_I (mj := 142) (nn := 0) (as := [.long (J1 33 r1.toNatClampNeg), .int l1]) (r := []) rfl rfl rfl ⟨rfl, by decide, Nat.le_of_ble_eq_true rfl, Nat.le_of_ble_eq_true rfl⟩ (by decide) (wcI_mono k (fun r2 I2 J2 k => ?_))
      refine wp_seg (C := gC113) (pc1 := 55) (Lo1 := [some (.ref 0), some (.int l1), some (.int l2), some (.int r1)]) (st1' := [.int (1 : Int32), .int r2]) (w1 := (wv x I2 J2)) rfl 1 rfl ?_
      refine wj_ne (tgt := 60) rfl rfl (fun h => ?_) (fun h => ?_)
      · have k := k.1 h
        refine wp_seg (C := gC113) (pc1 := 59) (Lo1 := [some (.ref 0), some (.int l1), some (.int l2), some (.int r1)]) (st1' := [.int l2]) (w1 := (wv x I2 J2)) rfl 1 rfl ?_
        exact we_i rfl rfl k
      · have k := k.2 h
        refine wp_seg (C := gC113) (pc1 := 18) (Lo1 := [some (.ref 0), some (.int l1), some (.int (l2 + (1 : Int32))), some (.int r1)]) (st1' := []) (w1 := (wv x I2 J2)) rfl 2 rfl ?_
        exact wp_sub (Lo := [some (.ref 0), some (.int l1), some (.int (l2 + (1 : Int32))), none]) (And.intro rfl (And.intro rfl (And.intro rfl (trivial)))) k
set_option maxRecDepth 20000 in
theorem v114_0_0 {S : Nat × (Nat → Int32)} {d : Nat} {x : mX} {I : rI0} {J : rJ0} {p1 : Int32} {Q : Int32 → rI0 → rJ0 → Prop} (k : (wcI S d 141 [.int p1] x I J (fun r1 I1 J1 => ((r1 = (0 : Int32) → Q (-1 : Int32) I1 J1) ∧ (¬ r1 = (0 : Int32) → (wcV S d 52 [.ref 41, .long (0 : Int64), .long (J1 3 6)] x I1 J1 (fun I2 J2 => (wcV S d 53 [.ref 41, .int p1] x I2 J2 (fun I3 J3 => (wcI S d 7 [.ref 31, .int p1] x I3 J3 (fun r4 I4 J4 => (¬ mOut r4 601 ∧ (wcI S d 250 [.long ((J4 33 r4.toNatClampNeg) &&& (J4 41 9))] x I4 J4 (fun r5 I5 J5 => Q r5 I5 J5)))))))))))))) : wp S (d + 1) 114 0 [some (.ref 0), some (.int p1)] [] (wv x I J) (rI x Q) := by
  refine wp_seg (C := gC114) (pc1 := 1) (Lo1 := [some (.ref 0), some (.int p1)]) (st1' := [.int p1]) (w1 := (wv x I J)) rfl 1 rfl ?_
  refine cs_I (mj := 141) (nn := 0) (as := [.int p1]) (r := []) rfl rfl rfl ⟨rfl, by decide, Nat.le_of_ble_eq_true rfl, Nat.le_of_ble_eq_true rfl⟩ (by decide) (wcI_mono k (fun r1 I1 J1 k => ?_))
  refine wi_ne (tgt := 9) rfl rfl (fun h => ?_) (fun h => ?_)
  · have k := k.1 h
    refine wp_seg (C := gC114) (pc1 := 8) (Lo1 := [some (.ref 0), some (.int p1)]) (st1' := [.int (-1 : Int32)]) (w1 := (wv x I1 J1)) rfl 1 rfl ?_
    exact we_i rfl rfl k
  · have k := k.2 h
    refine wp_seg (C := gC114) (pc1 := 24) (Lo1 := [some (.ref 0), some (.int p1)]) (st1' := [.long (J1 3 6), .long (0 : Int64), .ref 41]) (w1 := (wv x I1 J1)) rfl 7 rfl ?_
    refine cv_V (mj := 52) (a := 41) (as := [.long (0 : Int64), .long (J1 3 6)]) (r := []) rfl rfl rfl ⟨rfl, by decide, Nat.le_of_ble_eq_true rfl, Nat.le_of_ble_eq_true rfl⟩ rfl (wcV_mono k (fun I2 J2 k => ?_))
    refine wp_seg (C := gC114) (pc1 := 35) (Lo1 := [some (.ref 0), some (.int p1)]) (st1' := [.int p1, .ref 41]) (w1 := (wv x I2 J2)) rfl 4 rfl ?_
    refine cv_V (mj := 53) (a := 41) (as := [.int p1]) (r := []) rfl rfl rfl ⟨rfl, by decide, Nat.le_of_ble_eq_true rfl, Nat.le_of_ble_eq_true rfl⟩ rfl (wcV_mono k (fun I3 J3 k => ?_))
    refine wp_seg (C := gC114) (pc1 := 50) (Lo1 := [some (.ref 0), some (.int p1)]) (st1' := [.int p1, .ref 31, .ref 33]) (w1 := (wv x I3 J3)) rfl 6 rfl ?_
    refine cv_I (mj := 7) (a := 31) (as := [.int p1]) (r := [.ref 33]) rfl rfl rfl ⟨rfl, by decide, Nat.le_of_ble_eq_true rfl, Nat.le_of_ble_eq_true rfl⟩ rfl (wcI_mono k (fun r4 I4 J4 k => ?_))
    refine wa_l (n := 601) rfl rfl k.1 ?_
    have k := k.2
    refine wp_seg (C := gC114) (pc1 := 65) (Lo1 := [some (.ref 0), some (.int p1)]) (st1' := [.long ((J4 33 r4.toNatClampNeg) &&& (J4 41 9))]) (w1 := (wv x I4 J4)) rfl 5 rfl ?_
    refine cs_I (mj := 250) (nn := 0) (as := [.long ((J4 33 r4.toNatClampNeg) &&& (J4 41 9))]) (r := []) rfl rfl rfl ⟨rfl, by decide, Nat.le_of_ble_eq_true rfl, Nat.le_of_ble_eq_true rfl⟩ (by decide) (wcI_mono k (fun r5 I5 J5 k => ?_))
    exact we_i rfl rfl k
set_option maxRecDepth 20000 in
theorem v115_0_0 {S : Nat × (Nat → Int32)} {d : Nat} {x : mX} {I : rI0} {J : rJ0} {Q : Int32 → rI0 → rJ0 → Prop} (k : wp S (d + 1) 115 2 [some (.ref 0), some (.int (0 : Int32)), none] [] (wv x I J) (rI x Q)) : wp S (d + 1) 115 0 [some (.ref 0), none, none] [] (wv x I J) (rI x Q) := by
  refine wp_seg (C := gC115) (pc1 := 2) (Lo1 := [some (.ref 0), some (.int (0 : Int32)), none]) (st1' := []) (w1 := (wv x I J)) rfl 2 rfl ?_
  exact k
set_option maxRecDepth 20000 in
theorem v115_0_2 {S : Nat × (Nat → Int32)} {d : Nat} {x : mX} {I : rI0} {J : rJ0} {l1 : Int32} {Q : Int32 → rI0 → rJ0 → Prop} (k : (((600 : Int32) < l1 → Q (-1 : Int32) I J) ∧ (¬ (600 : Int32) < l1 → (wcI S d 7 [.ref 31, .int l1] x I J (fun r1 I1 J1 => ((r1 < l1 → Q (-1 : Int32) I1 J1) ∧ (¬ r1 < l1 → (wcI S d 9 [.ref 31, .int r1] x I1 J1 (fun r2 I2 J2 => ((r2 = (0 : Int32) → wp S (d + 1) 115 2 [some (.ref 0), some (.int (l1 + (1 : Int32))), none] [] (wv x I2 J2) (rI x Q)) ∧ (¬ r2 = (0 : Int32) → Q l1 I2 J2))))))))))) : wp S (d + 1) 115 2 [some (.ref 0), some (.int l1), none] [] (wv x I J) (rI x Q) := by
  refine wp_seg (C := gC115) (pc1 := 6) (Lo1 := [some (.ref 0), some (.int l1), none]) (st1' := [.int (600 : Int32), .int l1]) (w1 := (wv x I J)) rfl 2 rfl ?_
  refine wj_gt (tgt := 44) rfl rfl (fun h => ?_) (fun h => ?_)
  · have k := k.1 h
    refine wp_seg (C := gC115) (pc1 := 45) (Lo1 := [some (.ref 0), some (.int l1), none]) (st1' := [.int (-1 : Int32)]) (w1 := (wv x I J)) rfl 1 rfl ?_
    exact we_i rfl rfl k
  · have k := k.2 h
    refine wp_seg (C := gC115) (pc1 := 14) (Lo1 := [some (.ref 0), some (.int l1), none]) (st1' := [.int l1, .ref 31]) (w1 := (wv x I J)) rfl 3 rfl ?_
    refine cv_I (mj := 7) (a := 31) (as := [.int l1]) (r := []) rfl rfl rfl ⟨rfl, by decide, Nat.le_of_ble_eq_true rfl, Nat.le_of_ble_eq_true rfl⟩ rfl (wcI_mono k (fun r1 I1 J1 k => ?_))
    refine wp_seg (C := gC115) (pc1 := 20) (Lo1 := [some (.ref 0), some (.int l1), some (.int r1)]) (st1' := [.int l1, .int r1]) (w1 := (wv x I1 J1)) rfl 3 rfl ?_
    refine wj_ge (tgt := 25) rfl rfl (fun h => ?_) (fun h => ?_)
    · have k := k.1 h
      refine wp_seg (C := gC115) (pc1 := 24) (Lo1 := [some (.ref 0), some (.int l1), some (.int r1)]) (st1' := [.int (-1 : Int32)]) (w1 := (wv x I1 J1)) rfl 1 rfl ?_
      exact we_i rfl rfl k
    · have k := k.2 h
      refine wp_seg (C := gC115) (pc1 := 30) (Lo1 := [some (.ref 0), some (.int l1), some (.int r1)]) (st1' := [.int r1, .ref 31]) (w1 := (wv x I1 J1)) rfl 3 rfl ?_
      refine cv_I (mj := 9) (a := 31) (as := [.int r1]) (r := []) rfl rfl rfl ⟨rfl, by decide, Nat.le_of_ble_eq_true rfl, Nat.le_of_ble_eq_true rfl⟩ rfl (wcI_mono k (fun r2 I2 J2 k => ?_))
      refine wi_eq (tgt := 38) rfl rfl (fun h => ?_) (fun h => ?_)
      · have k := k.1 h
        refine wp_seg (C := gC115) (pc1 := 2) (Lo1 := [some (.ref 0), some (.int (l1 + (1 : Int32))), some (.int r1)]) (st1' := []) (w1 := (wv x I2 J2)) rfl 2 rfl ?_
        exact wp_sub (Lo := [some (.ref 0), some (.int (l1 + (1 : Int32))), none]) (And.intro rfl (And.intro rfl (trivial))) k
      · have k := k.2 h
        refine wp_seg (C := gC115) (pc1 := 37) (Lo1 := [some (.ref 0), some (.int l1), some (.int r1)]) (st1' := [.int l1]) (w1 := (wv x I2 J2)) rfl 1 rfl ?_
        exact we_i rfl rfl k
set_option maxRecDepth 20000 in
theorem v116_0_0 {S : Nat × (Nat → Int32)} {d : Nat} {x : mX} {I : rI0} {J : rJ0} {p1 : Int32} {Q : Int32 → rI0 → rJ0 → Prop} (k : (wcI S d 141 [.int p1] x I J (fun r1 I1 J1 => ((r1 = (0 : Int32) → Q (-1 : Int32) I1 J1) ∧ (¬ r1 = (0 : Int32) → wp S (d + 1) 116 16 [some (.ref 0), some (.int p1), some (.int (0 : Int32)), some (.int (0 : Int32)), some (.int (0 : Int32)), none, none] [] (wv x I1 J1) (rI x Q)))))) : wp S (d + 1) 116 0 [some (.ref 0), some (.int p1), none, none, none, none, none] [] (wv x I J) (rI x Q) := by
  refine wp_seg (C := gC116) (pc1 := 1) (Lo1 := [some (.ref 0), some (.int p1), none, none, none, none, none]) (st1' := [.int p1]) (w1 := (wv x I J)) rfl 1 rfl ?_
  refine cs_I (mj := 141) (nn := 0) (as := [.int p1]) (r := []) rfl rfl rfl ⟨rfl, by decide, Nat.le_of_ble_eq_true rfl, Nat.le_of_ble_eq_true rfl⟩ (by decide) (wcI_mono k (fun r1 I1 J1 k => ?_))
  refine wi_ne (tgt := 9) rfl rfl (fun h => ?_) (fun h => ?_)
  · have k := k.1 h
    refine wp_seg (C := gC116) (pc1 := 8) (Lo1 := [some (.ref 0), some (.int p1), none, none, none, none, none]) (st1' := [.int (-1 : Int32)]) (w1 := (wv x I1 J1)) rfl 1 rfl ?_
    exact we_i rfl rfl k
  · have k := k.2 h
    refine wp_seg (C := gC116) (pc1 := 16) (Lo1 := [some (.ref 0), some (.int p1), some (.int (0 : Int32)), some (.int (0 : Int32)), some (.int (0 : Int32)), none, none]) (st1' := []) (w1 := (wv x I1 J1)) rfl 6 rfl ?_
    exact k
set_option maxRecDepth 20000 in
theorem v116_0_16 {S : Nat × (Nat → Int32)} {d : Nat} {x : mX} {I : rI0} {J : rJ0} {l1 : Int32} {l2 : Int32} {l3 : Int32} {l4 : Int32} {Q : Int32 → rI0 → rJ0 → Prop} (k : ((l1 < l4 → Q l2 I J) ∧ (¬ l1 < l4 → (wcI S d 7 [.ref 31, .int l4] x I J (fun r1 I1 J1 => ((r1 < l4 → Q l2 I1 J1) ∧ (¬ r1 < l4 → (wcI S d 9 [.ref 31, .int r1] x I1 J1 (fun r2 I2 J2 => ((r2 = (0 : Int32) → wp S (d + 1) 116 16 [some (.ref 0), some (.int l1), some (.int l2), some (.int r2), some (.int (l4 + (1 : Int32))), none, none] [] (wv x I2 J2) (rI x Q)) ∧ (¬ r2 = (0 : Int32) → ((l3 = (0 : Int32) → wp S (d + 1) 116 16 [some (.ref 0), some (.int l1), some (.int (l2 + (1 : Int32))), some (.int r2), some (.int (l4 + (1 : Int32))), none, none] [] (wv x I2 J2) (rI x Q)) ∧ (¬ l3 = (0 : Int32) → wp S (d + 1) 116 16 [some (.ref 0), some (.int l1), some (.int l2), some (.int r2), some (.int (l4 + (1 : Int32))), none, none] [] (wv x I2 J2) (rI x Q)))))))))))))) : wp S (d + 1) 116 16 [some (.ref 0), some (.int l1), some (.int l2), some (.int l3), some (.int l4), none, none] [] (wv x I J) (rI x Q) := by
  refine wp_seg (C := gC116) (pc1 := 19) (Lo1 := [some (.ref 0), some (.int l1), some (.int l2), some (.int l3), some (.int l4), none, none]) (st1' := [.int l1, .int l4]) (w1 := (wv x I J)) rfl 2 rfl ?_
  refine wj_gt (tgt := 74) rfl rfl (fun h => ?_) (fun h => ?_)
  · have k := k.1 h
    refine wp_seg (C := gC116) (pc1 := 75) (Lo1 := [some (.ref 0), some (.int l1), some (.int l2), some (.int l3), some (.int l4), none, none]) (st1' := [.int l2]) (w1 := (wv x I J)) rfl 1 rfl ?_
    exact we_i rfl rfl k
  · have k := k.2 h
    refine wp_seg (C := gC116) (pc1 := 28) (Lo1 := [some (.ref 0), some (.int l1), some (.int l2), some (.int l3), some (.int l4), none, none]) (st1' := [.int l4, .ref 31]) (w1 := (wv x I J)) rfl 3 rfl ?_
    refine cv_I (mj := 7) (a := 31) (as := [.int l4]) (r := []) rfl rfl rfl ⟨rfl, by decide, Nat.le_of_ble_eq_true rfl, Nat.le_of_ble_eq_true rfl⟩ rfl (wcI_mono k (fun r1 I1 J1 k => ?_))
    refine wp_seg (C := gC116) (pc1 := 37) (Lo1 := [some (.ref 0), some (.int l1), some (.int l2), some (.int l3), some (.int l4), some (.int r1), none]) (st1' := [.int l4, .int r1]) (w1 := (wv x I1 J1)) rfl 3 rfl ?_
    refine wj_ge (tgt := 42) rfl rfl (fun h => ?_) (fun h => ?_)
    · have k := k.1 h
      refine wp_seg (C := gC116) (pc1 := 41) (Lo1 := [some (.ref 0), some (.int l1), some (.int l2), some (.int l3), some (.int l4), some (.int r1), none]) (st1' := [.int l2]) (w1 := (wv x I1 J1)) rfl 1 rfl ?_
      exact we_i rfl rfl k
    · have k := k.2 h
      refine wp_seg (C := gC116) (pc1 := 48) (Lo1 := [some (.ref 0), some (.int l1), some (.int l2), some (.int l3), some (.int l4), some (.int r1), none]) (st1' := [.int r1, .ref 31]) (w1 := (wv x I1 J1)) rfl 3 rfl ?_
      refine cv_I (mj := 9) (a := 31) (as := [.int r1]) (r := []) rfl rfl rfl ⟨rfl, by decide, Nat.le_of_ble_eq_true rfl, Nat.le_of_ble_eq_true rfl⟩ rfl (wcI_mono k (fun r2 I2 J2 k => ?_))
      refine wp_seg (C := gC116) (pc1 := 55) (Lo1 := [some (.ref 0), some (.int l1), some (.int l2), some (.int l3), some (.int l4), some (.int r1), some (.int r2)]) (st1' := [.int r2]) (w1 := (wv x I2 J2)) rfl 2 rfl ?_
      refine wi_eq (tgt := 65) rfl rfl (fun h => ?_) (fun h => ?_)
      · have k := k.1 h
        refine wp_seg (C := gC116) (pc1 := 16) (Lo1 := [some (.ref 0), some (.int l1), some (.int l2), some (.int r2), some (.int (l4 + (1 : Int32))), some (.int r1), some (.int r2)]) (st1' := []) (w1 := (wv x I2 J2)) rfl 4 rfl ?_
        exact wp_sub (Lo := [some (.ref 0), some (.int l1), some (.int l2), some (.int r2), some (.int (l4 + (1 : Int32))), none, none]) (And.intro rfl (And.intro rfl (And.intro rfl (And.intro rfl (And.intro rfl (trivial)))))) k
      · have k := k.2 h
        refine wp_seg (C := gC116) (pc1 := 59) (Lo1 := [some (.ref 0), some (.int l1), some (.int l2), some (.int l3), some (.int l4), some (.int r1), some (.int r2)]) (st1' := [.int l3]) (w1 := (wv x I2 J2)) rfl 1 rfl ?_
        refine wi_ne (tgt := 65) rfl rfl (fun h => ?_) (fun h => ?_)
        · have k := k.1 h
          refine wp_seg (C := gC116) (pc1 := 16) (Lo1 := [some (.ref 0), some (.int l1), some (.int (l2 + (1 : Int32))), some (.int r2), some (.int (l4 + (1 : Int32))), some (.int r1), some (.int r2)]) (st1' := []) (w1 := (wv x I2 J2)) rfl 5 rfl ?_
          exact wp_sub (Lo := [some (.ref 0), some (.int l1), some (.int (l2 + (1 : Int32))), some (.int r2), some (.int (l4 + (1 : Int32))), none, none]) (And.intro rfl (And.intro rfl (And.intro rfl (And.intro rfl (And.intro rfl (trivial)))))) k
        · have k := k.2 h
          refine wp_seg (C := gC116) (pc1 := 16) (Lo1 := [some (.ref 0), some (.int l1), some (.int l2), some (.int r2), some (.int (l4 + (1 : Int32))), some (.int r1), some (.int r2)]) (st1' := []) (w1 := (wv x I2 J2)) rfl 4 rfl ?_
          exact wp_sub (Lo := [some (.ref 0), some (.int l1), some (.int l2), some (.int r2), some (.int (l4 + (1 : Int32))), none, none]) (And.intro rfl (And.intro rfl (And.intro rfl (And.intro rfl (And.intro rfl (trivial)))))) k
set_option maxRecDepth 20000 in
theorem v117_0_0 {S : Nat × (Nat → Int32)} {d : Nat} {x : mX} {I : rI0} {J : rJ0} {p1 : Int32} {Q : Int32 → rI0 → rJ0 → Prop} (k : ((p1 < (0 : Int32) → Q (-1 : Int32) I J) ∧ (¬ p1 < (0 : Int32) → (((1 : Int32) < p1 → Q (-1 : Int32) I J) ∧ (¬ (1 : Int32) < p1 → (wcI S d 18 [.ref 3] x I J (fun r1 I1 J1 => wp S (d + 1) 117 19 [some (.ref 0), some (.int p1), some (.int r1), none] [] (wv x I1 J1) (rI x Q)))))))) : wp S (d + 1) 117 0 [some (.ref 0), some (.int p1), none, none] [] (wv x I J) (rI x Q) := by
  refine wp_seg (C := gC117) (pc1 := 1) (Lo1 := [some (.ref 0), some (.int p1), none, none]) (st1' := [.int p1]) (w1 := (wv x I J)) rfl 1 rfl ?_
  refine wi_lt (tgt := 9) rfl rfl (fun h => ?_) (fun h => ?_)
  · have k := k.1 h
    refine wp_seg (C := gC117) (pc1 := 10) (Lo1 := [some (.ref 0), some (.int p1), none, none]) (st1' := [.int (-1 : Int32)]) (w1 := (wv x I J)) rfl 1 rfl ?_
    exact we_i rfl rfl k
  · have k := k.2 h
    refine wp_seg (C := gC117) (pc1 := 6) (Lo1 := [some (.ref 0), some (.int p1), none, none]) (st1' := [.int (1 : Int32), .int p1]) (w1 := (wv x I J)) rfl 2 rfl ?_
    refine wj_le (tgt := 11) rfl rfl (fun h => ?_) (fun h => ?_)
    · have k := k.1 h
      refine wp_seg (C := gC117) (pc1 := 10) (Lo1 := [some (.ref 0), some (.int p1), none, none]) (st1' := [.int (-1 : Int32)]) (w1 := (wv x I J)) rfl 1 rfl ?_
      exact we_i rfl rfl k
    · have k := k.2 h
      refine wp_seg (C := gC117) (pc1 := 15) (Lo1 := [some (.ref 0), some (.int p1), none, none]) (st1' := [.ref 3]) (w1 := (wv x I J)) rfl 2 rfl ?_
      refine cv_I (mj := 18) (a := 3) (as := []) (r := []) rfl rfl rfl ⟨rfl, by decide, Nat.le_of_ble_eq_true rfl, Nat.le_of_ble_eq_true rfl⟩ rfl (wcI_mono k (fun r1 I1 J1 k => ?_))
      refine wp_seg (C := gC117) (pc1 := 19) (Lo1 := [some (.ref 0), some (.int p1), some (.int r1), none]) (st1' := []) (w1 := (wv x I1 J1)) rfl 1 rfl ?_
      exact k
set_option maxRecDepth 20000 in
theorem v117_0_19 {S : Nat × (Nat → Int32)} {d : Nat} {x : mX} {I : rI0} {J : rJ0} {l1 : Int32} {l2 : Int32} {Q : Int32 → rI0 → rJ0 → Prop} (k : ((l2 < (600 : Int32) → (wcI S d 11 [.ref 31, .int l2] x I J (fun r1 I1 J1 => ((r1 = (-1 : Int32) → wp S (d + 1) 117 19 [some (.ref 0), some (.int l1), some (.int (l2 + (1 : Int32))), none] [] (wv x I1 J1) (rI x Q)) ∧ (¬ r1 = (-1 : Int32) → ((l1 = (0 : Int32) → Q l2 I1 J1) ∧ (¬ l1 = (0 : Int32) → Q (r1 - l2) I1 J1))))))) ∧ (¬ l2 < (600 : Int32) → Q (-1 : Int32) I J))) : wp S (d + 1) 117 19 [some (.ref 0), some (.int l1), some (.int l2), none] [] (wv x I J) (rI x Q) := by
  refine wp_seg (C := gC117) (pc1 := 23) (Lo1 := [some (.ref 0), some (.int l1), some (.int l2), none]) (st1' := [.int (600 : Int32), .int l2]) (w1 := (wv x I J)) rfl 2 rfl ?_
  refine wj_ge (tgt := 58) rfl rfl (fun h => ?_) (fun h => ?_)
  · have k := k.1 h
    refine wp_seg (C := gC117) (pc1 := 31) (Lo1 := [some (.ref 0), some (.int l1), some (.int l2), none]) (st1' := [.int l2, .ref 31]) (w1 := (wv x I J)) rfl 3 rfl ?_
    refine cv_I (mj := 11) (a := 31) (as := [.int l2]) (r := []) rfl rfl rfl ⟨rfl, by decide, Nat.le_of_ble_eq_true rfl, Nat.le_of_ble_eq_true rfl⟩ rfl (wcI_mono k (fun r1 I1 J1 k => ?_))
    refine wp_seg (C := gC117) (pc1 := 37) (Lo1 := [some (.ref 0), some (.int l1), some (.int l2), some (.int r1)]) (st1' := [.int (-1 : Int32), .int r1]) (w1 := (wv x I1 J1)) rfl 3 rfl ?_
    refine wj_eq (tgt := 52) rfl rfl (fun h => ?_) (fun h => ?_)
    · have k := k.1 h
      refine wp_seg (C := gC117) (pc1 := 19) (Lo1 := [some (.ref 0), some (.int l1), some (.int (l2 + (1 : Int32))), some (.int r1)]) (st1' := []) (w1 := (wv x I1 J1)) rfl 2 rfl ?_
      exact wp_sub (Lo := [some (.ref 0), some (.int l1), some (.int (l2 + (1 : Int32))), none]) (And.intro rfl (And.intro rfl (And.intro rfl (trivial)))) k
    · have k := k.2 h
      refine wp_seg (C := gC117) (pc1 := 41) (Lo1 := [some (.ref 0), some (.int l1), some (.int l2), some (.int r1)]) (st1' := [.int l1]) (w1 := (wv x I1 J1)) rfl 1 rfl ?_
      refine wi_ne (tgt := 48) rfl rfl (fun h => ?_) (fun h => ?_)
      · have k := k.1 h
        refine wp_seg (C := gC117) (pc1 := 51) (Lo1 := [some (.ref 0), some (.int l1), some (.int l2), some (.int r1)]) (st1' := [.int l2]) (w1 := (wv x I1 J1)) rfl 2 rfl ?_
        exact we_i rfl rfl k
      · have k := k.2 h
        refine wp_seg (C := gC117) (pc1 := 51) (Lo1 := [some (.ref 0), some (.int l1), some (.int l2), some (.int r1)]) (st1' := [.int (r1 - l2)]) (w1 := (wv x I1 J1)) rfl 3 rfl ?_
        exact we_i rfl rfl k
  · have k := k.2 h
    refine wp_seg (C := gC117) (pc1 := 59) (Lo1 := [some (.ref 0), some (.int l1), some (.int l2), none]) (st1' := [.int (-1 : Int32)]) (w1 := (wv x I J)) rfl 1 rfl ?_
    exact we_i rfl rfl k
set_option maxRecDepth 20000 in
theorem v118_0_0 {S : Nat × (Nat → Int32)} {d : Nat} {x : mX} {I : rI0} {J : rJ0} {p1 : Int32} {Q : Int32 → rI0 → rJ0 → Prop} (k : ((p1 < (0 : Int32) → Q (-1 : Int32) I J) ∧ (¬ p1 < (0 : Int32) → (((1 : Int32) < p1 → Q (-1 : Int32) I J) ∧ (¬ (1 : Int32) < p1 → (wcI S d 10 [.ref 31] x I J (fun r1 I1 J1 => ((p1 = (1 : Int32) → Q r1 I1 J1) ∧ (¬ p1 = (1 : Int32) → ((r1 < (I1 4 2) → Q (0 : Int32) I1 J1) ∧ (¬ r1 < (I1 4 2) → Q (1 : Int32) I1 J1))))))))))) : wp S (d + 1) 118 0 [some (.ref 0), some (.int p1), none] [] (wv x I J) (rI x Q) := by
  refine wp_seg (C := gC118) (pc1 := 1) (Lo1 := [some (.ref 0), some (.int p1), none]) (st1' := [.int p1]) (w1 := (wv x I J)) rfl 1 rfl ?_
  refine wi_lt (tgt := 9) rfl rfl (fun h => ?_) (fun h => ?_)
  · have k := k.1 h
    refine wp_seg (C := gC118) (pc1 := 10) (Lo1 := [some (.ref 0), some (.int p1), none]) (st1' := [.int (-1 : Int32)]) (w1 := (wv x I J)) rfl 1 rfl ?_
    exact we_i rfl rfl k
  · have k := k.2 h
    refine wp_seg (C := gC118) (pc1 := 6) (Lo1 := [some (.ref 0), some (.int p1), none]) (st1' := [.int (1 : Int32), .int p1]) (w1 := (wv x I J)) rfl 2 rfl ?_
    refine wj_le (tgt := 11) rfl rfl (fun h => ?_) (fun h => ?_)
    · have k := k.1 h
      refine wp_seg (C := gC118) (pc1 := 10) (Lo1 := [some (.ref 0), some (.int p1), none]) (st1' := [.int (-1 : Int32)]) (w1 := (wv x I J)) rfl 1 rfl ?_
      exact we_i rfl rfl k
    · have k := k.2 h
      refine wp_seg (C := gC118) (pc1 := 15) (Lo1 := [some (.ref 0), some (.int p1), none]) (st1' := [.ref 31]) (w1 := (wv x I J)) rfl 2 rfl ?_
      refine cv_I (mj := 10) (a := 31) (as := []) (r := []) rfl rfl rfl ⟨rfl, by decide, Nat.le_of_ble_eq_true rfl, Nat.le_of_ble_eq_true rfl⟩ rfl (wcI_mono k (fun r1 I1 J1 k => ?_))
      refine wp_seg (C := gC118) (pc1 := 21) (Lo1 := [some (.ref 0), some (.int p1), some (.int r1)]) (st1' := [.int (1 : Int32), .int p1]) (w1 := (wv x I1 J1)) rfl 3 rfl ?_
      refine wj_ne (tgt := 26) rfl rfl (fun h => ?_) (fun h => ?_)
      · have k := k.1 h
        refine wp_seg (C := gC118) (pc1 := 25) (Lo1 := [some (.ref 0), some (.int p1), some (.int r1)]) (st1' := [.int r1]) (w1 := (wv x I1 J1)) rfl 1 rfl ?_
        exact we_i rfl rfl k
      · have k := k.2 h
        refine wp_seg (C := gC118) (pc1 := 37) (Lo1 := [some (.ref 0), some (.int p1), some (.int r1)]) (st1' := [.int (I1 4 2), .int r1]) (w1 := (wv x I1 J1)) rfl 5 rfl ?_
        refine wj_lt (tgt := 44) rfl rfl (fun h => ?_) (fun h => ?_)
        · have k := k.1 h
          refine wp_seg (C := gC118) (pc1 := 45) (Lo1 := [some (.ref 0), some (.int p1), some (.int r1)]) (st1' := [.int (0 : Int32)]) (w1 := (wv x I1 J1)) rfl 1 rfl ?_
          exact we_i rfl rfl k
        · have k := k.2 h
          refine wp_seg (C := gC118) (pc1 := 45) (Lo1 := [some (.ref 0), some (.int p1), some (.int r1)]) (st1' := [.int (1 : Int32)]) (w1 := (wv x I1 J1)) rfl 2 rfl ?_
          exact we_i rfl rfl k
set_option maxRecDepth 20000 in
theorem v119_0_0 {S : Nat × (Nat → Int32)} {d : Nat} {x : mX} {I : rI0} {J : rJ0} {Q : Int32 → rI0 → rJ0 → Prop} (k : (wcI S d 67 [.ref 1] x I J (fun r1 I1 J1 => (wcI S d 80 [.ref 37, .int r1] x I1 J1 (fun r2 I2 J2 => ((r2 = (0 : Int32) → Q (-2 : Int32) I2 J2) ∧ (¬ r2 = (0 : Int32) → (wcI S d 84 [.ref 37, .int r1] x I2 J2 (fun r3 I3 J3 => Q r3 I3 J3))))))))) : wp S (d + 1) 119 0 [some (.ref 0), none] [] (wv x I J) (rI x Q) := by
  refine wp_seg (C := gC119) (pc1 := 4) (Lo1 := [some (.ref 0), none]) (st1' := [.ref 1]) (w1 := (wv x I J)) rfl 2 rfl ?_
  refine cv_I (mj := 67) (a := 1) (as := []) (r := []) rfl rfl rfl ⟨rfl, by decide, Nat.le_of_ble_eq_true rfl, Nat.le_of_ble_eq_true rfl⟩ rfl (wcI_mono k (fun r1 I1 J1 k => ?_))
  refine wp_seg (C := gC119) (pc1 := 13) (Lo1 := [some (.ref 0), some (.int r1)]) (st1' := [.int r1, .ref 37]) (w1 := (wv x I1 J1)) rfl 4 rfl ?_
  refine cv_I (mj := 80) (a := 37) (as := [.int r1]) (r := []) rfl rfl rfl ⟨rfl, by decide, Nat.le_of_ble_eq_true rfl, Nat.le_of_ble_eq_true rfl⟩ rfl (wcI_mono k (fun r2 I2 J2 k => ?_))
  refine wi_eq (tgt := 30) rfl rfl (fun h => ?_) (fun h => ?_)
  · have k := k.1 h
    refine wp_seg (C := gC119) (pc1 := 32) (Lo1 := [some (.ref 0), some (.int r1)]) (st1' := [.int (-2 : Int32)]) (w1 := (wv x I2 J2)) rfl 1 rfl ?_
    exact we_i rfl rfl k
  · have k := k.2 h
    refine wp_seg (C := gC119) (pc1 := 24) (Lo1 := [some (.ref 0), some (.int r1)]) (st1' := [.int r1, .ref 37]) (w1 := (wv x I2 J2)) rfl 3 rfl ?_
    refine cv_I (mj := 84) (a := 37) (as := [.int r1]) (r := []) rfl rfl rfl ⟨rfl, by decide, Nat.le_of_ble_eq_true rfl, Nat.le_of_ble_eq_true rfl⟩ rfl (wcI_mono k (fun r3 I3 J3 k => ?_))
    refine wp_seg (C := gC119) (pc1 := 32) (Lo1 := [some (.ref 0), some (.int r1)]) (st1' := [.int r3]) (w1 := (wv x I3 J3)) rfl 1 rfl ?_
    exact we_i rfl rfl k
set_option maxRecDepth 20000 in
theorem v120_0_0 {S : Nat × (Nat → Int32)} {d : Nat} {x : mX} {I : rI0} {J : rJ0} {Q : Int32 → rI0 → rJ0 → Prop} (k : Q (I 37 8) I J) : wp S d 120 0 [some (.ref 0)] [] (wv x I J) (rI x Q) := by
  refine wp_seg (C := gC120) (pc1 := 7) (Lo1 := [some (.ref 0)]) (st1' := [.int (I 37 8)]) (w1 := (wv x I J)) rfl 3 rfl ?_
  exact we_i rfl rfl k
set_option maxRecDepth 20000 in
theorem v121_0_0 {S : Nat × (Nat → Int32)} {d : Nat} {x : mX} {I : rI0} {J : rJ0} {Q : Int32 → rI0 → rJ0 → Prop} (k : (wcI S d 67 [.ref 1] x I J (fun r1 I1 J1 => (wcI S d 80 [.ref 37, .int r1] x I1 J1 (fun r2 I2 J2 => ((r2 = (0 : Int32) → Q (-2 : Int32) I2 J2) ∧ (¬ r2 = (0 : Int32) → (wcI S d 85 [.ref 37, .int r1] x I2 J2 (fun r3 I3 J3 => Q r3 I3 J3))))))))) : wp S (d + 1) 121 0 [some (.ref 0), none] [] (wv x I J) (rI x Q) := by
  refine wp_seg (C := gC121) (pc1 := 4) (Lo1 := [some (.ref 0), none]) (st1' := [.ref 1]) (w1 := (wv x I J)) rfl 2 rfl ?_
  refine cv_I (mj := 67) (a := 1) (as := []) (r := []) rfl rfl rfl ⟨rfl, by decide, Nat.le_of_ble_eq_true rfl, Nat.le_of_ble_eq_true rfl⟩ rfl (wcI_mono k (fun r1 I1 J1 k => ?_))
  refine wp_seg (C := gC121) (pc1 := 13) (Lo1 := [some (.ref 0), some (.int r1)]) (st1' := [.int r1, .ref 37]) (w1 := (wv x I1 J1)) rfl 4 rfl ?_
  refine cv_I (mj := 80) (a := 37) (as := [.int r1]) (r := []) rfl rfl rfl ⟨rfl, by decide, Nat.le_of_ble_eq_true rfl, Nat.le_of_ble_eq_true rfl⟩ rfl (wcI_mono k (fun r2 I2 J2 k => ?_))
  refine wi_eq (tgt := 30) rfl rfl (fun h => ?_) (fun h => ?_)
  · have k := k.1 h
    refine wp_seg (C := gC121) (pc1 := 32) (Lo1 := [some (.ref 0), some (.int r1)]) (st1' := [.int (-2 : Int32)]) (w1 := (wv x I2 J2)) rfl 1 rfl ?_
    exact we_i rfl rfl k
  · have k := k.2 h
    refine wp_seg (C := gC121) (pc1 := 24) (Lo1 := [some (.ref 0), some (.int r1)]) (st1' := [.int r1, .ref 37]) (w1 := (wv x I2 J2)) rfl 3 rfl ?_
    refine cv_I (mj := 85) (a := 37) (as := [.int r1]) (r := []) rfl rfl rfl ⟨rfl, by decide, Nat.le_of_ble_eq_true rfl, Nat.le_of_ble_eq_true rfl⟩ rfl (wcI_mono k (fun r3 I3 J3 k => ?_))
    refine wp_seg (C := gC121) (pc1 := 32) (Lo1 := [some (.ref 0), some (.int r1)]) (st1' := [.int r3]) (w1 := (wv x I3 J3)) rfl 1 rfl ?_
    exact we_i rfl rfl k
set_option maxRecDepth 20000 in
theorem v122_0_0 {S : Nat × (Nat → Int32)} {d : Nat} {x : mX} {I : rI0} {J : rJ0} {p1 : Int32} {Q : Int32 → rI0 → rJ0 → Prop} (k : (wcI S d 67 [.ref 1] x I J (fun r1 I1 J1 => (wcI S d 80 [.ref 37, .int r1] x I1 J1 (fun r2 I2 J2 => ((r2 = (0 : Int32) → Q (-2 : Int32) I2 J2) ∧ (¬ r2 = (0 : Int32) → (wcI S d 86 [.ref 37, .int r1] x I2 J2 (fun r3 I3 J3 => ((p1 = (-1 : Int32) → Q r3 I3 J3) ∧ (¬ p1 = (-1 : Int32) → ((p1 < (0 : Int32) → Q (-1 : Int32) I3 J3) ∧ (¬ p1 < (0 : Int32) → ((p1 < r3 → (¬ mOut p1 256 ∧ Q (I3 39 p1.toNatClampNeg) I3 J3)) ∧ (¬ p1 < r3 → Q (-1 : Int32) I3 J3))))))))))))))) : wp S (d + 1) 122 0 [some (.ref 0), some (.int p1), none, none] [] (wv x I J) (rI x Q) := by
  refine wp_seg (C := gC122) (pc1 := 4) (Lo1 := [some (.ref 0), some (.int p1), none, none]) (st1' := [.ref 1]) (w1 := (wv x I J)) rfl 2 rfl ?_
  refine cv_I (mj := 67) (a := 1) (as := []) (r := []) rfl rfl rfl ⟨rfl, by decide, Nat.le_of_ble_eq_true rfl, Nat.le_of_ble_eq_true rfl⟩ rfl (wcI_mono k (fun r1 I1 J1 k => ?_))
  refine wp_seg (C := gC122) (pc1 := 13) (Lo1 := [some (.ref 0), some (.int p1), some (.int r1), none]) (st1' := [.int r1, .ref 37]) (w1 := (wv x I1 J1)) rfl 4 rfl ?_
  refine cv_I (mj := 80) (a := 37) (as := [.int r1]) (r := []) rfl rfl rfl ⟨rfl, by decide, Nat.le_of_ble_eq_true rfl, Nat.le_of_ble_eq_true rfl⟩ rfl (wcI_mono k (fun r2 I2 J2 k => ?_))
  refine wi_ne (tgt := 22) rfl rfl (fun h => ?_) (fun h => ?_)
  · have k := k.1 h
    refine wp_seg (C := gC122) (pc1 := 21) (Lo1 := [some (.ref 0), some (.int p1), some (.int r1), none]) (st1' := [.int (-2 : Int32)]) (w1 := (wv x I2 J2)) rfl 1 rfl ?_
    exact we_i rfl rfl k
  · have k := k.2 h
    refine wp_seg (C := gC122) (pc1 := 27) (Lo1 := [some (.ref 0), some (.int p1), some (.int r1), none]) (st1' := [.int r1, .ref 37]) (w1 := (wv x I2 J2)) rfl 3 rfl ?_
    refine cv_I (mj := 86) (a := 37) (as := [.int r1]) (r := []) rfl rfl rfl ⟨rfl, by decide, Nat.le_of_ble_eq_true rfl, Nat.le_of_ble_eq_true rfl⟩ rfl (wcI_mono k (fun r3 I3 J3 k => ?_))
    refine wp_seg (C := gC122) (pc1 := 33) (Lo1 := [some (.ref 0), some (.int p1), some (.int r1), some (.int r3)]) (st1' := [.int (-1 : Int32), .int p1]) (w1 := (wv x I3 J3)) rfl 3 rfl ?_
    refine wj_ne (tgt := 38) rfl rfl (fun h => ?_) (fun h => ?_)
    · have k := k.1 h
      refine wp_seg (C := gC122) (pc1 := 37) (Lo1 := [some (.ref 0), some (.int p1), some (.int r1), some (.int r3)]) (st1' := [.int r3]) (w1 := (wv x I3 J3)) rfl 1 rfl ?_
      exact we_i rfl rfl k
    · have k := k.2 h
      refine wp_seg (C := gC122) (pc1 := 39) (Lo1 := [some (.ref 0), some (.int p1), some (.int r1), some (.int r3)]) (st1' := [.int p1]) (w1 := (wv x I3 J3)) rfl 1 rfl ?_
      refine wi_lt (tgt := 59) rfl rfl (fun h => ?_) (fun h => ?_)
      · have k := k.1 h
        refine wp_seg (C := gC122) (pc1 := 60) (Lo1 := [some (.ref 0), some (.int p1), some (.int r1), some (.int r3)]) (st1' := [.int (-1 : Int32)]) (w1 := (wv x I3 J3)) rfl 1 rfl ?_
        exact we_i rfl rfl k
      · have k := k.2 h
        refine wp_seg (C := gC122) (pc1 := 44) (Lo1 := [some (.ref 0), some (.int p1), some (.int r1), some (.int r3)]) (st1' := [.int r3, .int p1]) (w1 := (wv x I3 J3)) rfl 2 rfl ?_
        refine wj_ge (tgt := 59) rfl rfl (fun h => ?_) (fun h => ?_)
        · have k := k.1 h
          refine wp_seg (C := gC122) (pc1 := 55) (Lo1 := [some (.ref 0), some (.int p1), some (.int r1), some (.int r3)]) (st1' := [.int p1, .ref 39]) (w1 := (wv x I3 J3)) rfl 4 rfl ?_
          refine wa_i (n := 256) rfl (by decide) rfl k.1 ?_
          have k := k.2
          refine wp_seg (C := gC122) (pc1 := 60) (Lo1 := [some (.ref 0), some (.int p1), some (.int r1), some (.int r3)]) (st1' := [.int (I3 39 p1.toNatClampNeg)]) (w1 := (wv x I3 J3)) rfl 1 rfl ?_
          exact we_i rfl rfl k
        · have k := k.2 h
          refine wp_seg (C := gC122) (pc1 := 60) (Lo1 := [some (.ref 0), some (.int p1), some (.int r1), some (.int r3)]) (st1' := [.int (-1 : Int32)]) (w1 := (wv x I3 J3)) rfl 1 rfl ?_
          exact we_i rfl rfl k
set_option maxRecDepth 20000 in
theorem v123_0_0 {S : Nat × (Nat → Int32)} {d : Nat} {x : mX} {I : rI0} {J : rJ0} {Q : Int32 → rI0 → rJ0 → Prop} (k : (wcI S d 67 [.ref 1] x I J (fun r1 I1 J1 => (wcI S d 80 [.ref 37, .int r1] x I1 J1 (fun r2 I2 J2 => ((r2 = (0 : Int32) → Q (-1 : Int32) I2 J2) ∧ (¬ r2 = (0 : Int32) → (wcI S d 88 [.ref 37, .int r1] x I2 J2 (fun r3 I3 J3 => Q r3 I3 J3))))))))) : wp S (d + 1) 123 0 [some (.ref 0), none] [] (wv x I J) (rI x Q) := by
  refine wp_seg (C := gC123) (pc1 := 4) (Lo1 := [some (.ref 0), none]) (st1' := [.ref 1]) (w1 := (wv x I J)) rfl 2 rfl ?_
  refine cv_I (mj := 67) (a := 1) (as := []) (r := []) rfl rfl rfl ⟨rfl, by decide, Nat.le_of_ble_eq_true rfl, Nat.le_of_ble_eq_true rfl⟩ rfl (wcI_mono k (fun r1 I1 J1 k => ?_))
  refine wp_seg (C := gC123) (pc1 := 13) (Lo1 := [some (.ref 0), some (.int r1)]) (st1' := [.int r1, .ref 37]) (w1 := (wv x I1 J1)) rfl 4 rfl ?_
  refine cv_I (mj := 80) (a := 37) (as := [.int r1]) (r := []) rfl rfl rfl ⟨rfl, by decide, Nat.le_of_ble_eq_true rfl, Nat.le_of_ble_eq_true rfl⟩ rfl (wcI_mono k (fun r2 I2 J2 k => ?_))
  refine wi_eq (tgt := 30) rfl rfl (fun h => ?_) (fun h => ?_)
  · have k := k.1 h
    refine wp_seg (C := gC123) (pc1 := 31) (Lo1 := [some (.ref 0), some (.int r1)]) (st1' := [.int (-1 : Int32)]) (w1 := (wv x I2 J2)) rfl 1 rfl ?_
    exact we_i rfl rfl k
  · have k := k.2 h
    refine wp_seg (C := gC123) (pc1 := 24) (Lo1 := [some (.ref 0), some (.int r1)]) (st1' := [.int r1, .ref 37]) (w1 := (wv x I2 J2)) rfl 3 rfl ?_
    refine cv_I (mj := 88) (a := 37) (as := [.int r1]) (r := []) rfl rfl rfl ⟨rfl, by decide, Nat.le_of_ble_eq_true rfl, Nat.le_of_ble_eq_true rfl⟩ rfl (wcI_mono k (fun r3 I3 J3 k => ?_))
    refine wp_seg (C := gC123) (pc1 := 31) (Lo1 := [some (.ref 0), some (.int r1)]) (st1' := [.int r3]) (w1 := (wv x I3 J3)) rfl 1 rfl ?_
    exact we_i rfl rfl k
set_option maxRecDepth 20000 in
theorem v125_0_0 {S : Nat × (Nat → Int32)} {d : Nat} {x : mX} {I : rI0} {J : rJ0} {Q : Int32 → rI0 → rJ0 → Prop} (k : (wcI S d 67 [.ref 1] x I J (fun r1 I1 J1 => (((0 : Int32) < r1 → (¬ mOut (0 : Int32) 940 ∧ wp S (d + 1) 125 25 [some (.ref 0), some (.int r1), none, none] [.int (I1 2 ((0 : Int32).toNatClampNeg))] (wv x I1 J1) (rI x Q))) ∧ (¬ (0 : Int32) < r1 → wp S (d + 1) 125 25 [some (.ref 0), some (.int r1), none, none] [.int (0 : Int32)] (wv x I1 J1) (rI x Q)))))) : wp S (d + 1) 125 0 [some (.ref 0), none, none, none] [] (wv x I J) (rI x Q) := by
  refine wp_seg (C := gC125) (pc1 := 4) (Lo1 := [some (.ref 0), none, none, none]) (st1' := [.ref 1]) (w1 := (wv x I J)) rfl 2 rfl ?_
  refine cv_I (mj := 67) (a := 1) (as := []) (r := []) rfl rfl rfl ⟨rfl, by decide, Nat.le_of_ble_eq_true rfl, Nat.le_of_ble_eq_true rfl⟩ rfl (wcI_mono k (fun r1 I1 J1 k => ?_))
  refine wp_seg (C := gC125) (pc1 := 9) (Lo1 := [some (.ref 0), some (.int r1), none, none]) (st1' := [.int r1]) (w1 := (wv x I1 J1)) rfl 2 rfl ?_
  refine wi_le (tgt := 24) rfl rfl (fun h => ?_) (fun h => ?_)
  · have k := k.1 h
    refine wp_seg (C := gC125) (pc1 := 20) (Lo1 := [some (.ref 0), some (.int r1), none, none]) (st1' := [.int (0 : Int32), .ref 2]) (w1 := (wv x I1 J1)) rfl 4 rfl ?_
    refine wa_i (n := 940) rfl (by decide) rfl k.1 ?_
    have k := k.2
    refine wp_seg (C := gC125) (pc1 := 25) (Lo1 := [some (.ref 0), some (.int r1), none, none]) (st1' := [.int (I1 2 ((0 : Int32).toNatClampNeg))]) (w1 := (wv x I1 J1)) rfl 1 rfl ?_
    exact k
  · have k := k.2 h
    refine wp_seg (C := gC125) (pc1 := 25) (Lo1 := [some (.ref 0), some (.int r1), none, none]) (st1' := [.int (0 : Int32)]) (w1 := (wv x I1 J1)) rfl 1 rfl ?_
    exact k
set_option maxRecDepth 20000 in
theorem v125_0_25 {S : Nat × (Nat → Int32)} {d : Nat} {x : mX} {I : rI0} {J : rJ0} {l1 : Int32} {s0 : Int32} {Q : Int32 → rI0 → rJ0 → Prop} (k : ((s0 < (1 : Int32) → Q (-1 : Int32) I J) ∧ (¬ s0 < (1 : Int32) → (((6 : Int32) < s0 → Q (-1 : Int32) I J) ∧ (¬ (6 : Int32) < s0 → ((((l1 - (1 : Int32)) - s0) < (1 : Int32) → Q (-1 : Int32) I J) ∧ (¬ ((l1 - (1 : Int32)) - s0) < (1 : Int32) → (((6 : Int32) < ((l1 - (1 : Int32)) - s0) → Q (-1 : Int32) I J) ∧ (¬ (6 : Int32) < ((l1 - (1 : Int32)) - s0) → (wcI S d 81 [.ref 37, .int (1 : Int32), .int l1] x I J (fun r1 I1 J1 => ((r1 = (0 : Int32) → Q (-1 : Int32) I1 J1) ∧ (¬ r1 = (0 : Int32) → (wcI S d 92 [.ref 37, .int s0, .int l1] x I1 J1 (fun r2 I2 J2 => Q r2 I2 J2))))))))))))))) : wp S (d + 1) 125 25 [some (.ref 0), some (.int l1), none, none] [.int s0] (wv x I J) (rI x Q) := by
  refine wp_seg (C := gC125) (pc1 := 34) (Lo1 := [some (.ref 0), some (.int l1), some (.int s0), some (.int ((l1 - (1 : Int32)) - s0))]) (st1' := [.int (1 : Int32), .int s0]) (w1 := (wv x I J)) rfl 9 rfl ?_
  refine wj_lt (tgt := 54) rfl rfl (fun h => ?_) (fun h => ?_)
  · have k := k.1 h
    refine wp_seg (C := gC125) (pc1 := 55) (Lo1 := [some (.ref 0), some (.int l1), some (.int s0), some (.int ((l1 - (1 : Int32)) - s0))]) (st1' := [.int (-1 : Int32)]) (w1 := (wv x I J)) rfl 1 rfl ?_
    exact we_i rfl rfl k
  · have k := k.2 h
    refine wp_seg (C := gC125) (pc1 := 40) (Lo1 := [some (.ref 0), some (.int l1), some (.int s0), some (.int ((l1 - (1 : Int32)) - s0))]) (st1' := [.int (6 : Int32), .int s0]) (w1 := (wv x I J)) rfl 2 rfl ?_
    refine wj_gt (tgt := 54) rfl rfl (fun h => ?_) (fun h => ?_)
    · have k := k.1 h
      refine wp_seg (C := gC125) (pc1 := 55) (Lo1 := [some (.ref 0), some (.int l1), some (.int s0), some (.int ((l1 - (1 : Int32)) - s0))]) (st1' := [.int (-1 : Int32)]) (w1 := (wv x I J)) rfl 1 rfl ?_
      exact we_i rfl rfl k
    · have k := k.2 h
      refine wp_seg (C := gC125) (pc1 := 45) (Lo1 := [some (.ref 0), some (.int l1), some (.int s0), some (.int ((l1 - (1 : Int32)) - s0))]) (st1' := [.int (1 : Int32), .int ((l1 - (1 : Int32)) - s0)]) (w1 := (wv x I J)) rfl 2 rfl ?_
      refine wj_lt (tgt := 54) rfl rfl (fun h => ?_) (fun h => ?_)
      · have k := k.1 h
        refine wp_seg (C := gC125) (pc1 := 55) (Lo1 := [some (.ref 0), some (.int l1), some (.int s0), some (.int ((l1 - (1 : Int32)) - s0))]) (st1' := [.int (-1 : Int32)]) (w1 := (wv x I J)) rfl 1 rfl ?_
        exact we_i rfl rfl k
      · have k := k.2 h
        refine wp_seg (C := gC125) (pc1 := 51) (Lo1 := [some (.ref 0), some (.int l1), some (.int s0), some (.int ((l1 - (1 : Int32)) - s0))]) (st1' := [.int (6 : Int32), .int ((l1 - (1 : Int32)) - s0)]) (w1 := (wv x I J)) rfl 2 rfl ?_
        refine wj_le (tgt := 56) rfl rfl (fun h => ?_) (fun h => ?_)
        · have k := k.1 h
          refine wp_seg (C := gC125) (pc1 := 55) (Lo1 := [some (.ref 0), some (.int l1), some (.int s0), some (.int ((l1 - (1 : Int32)) - s0))]) (st1' := [.int (-1 : Int32)]) (w1 := (wv x I J)) rfl 1 rfl ?_
          exact we_i rfl rfl k
        · have k := k.2 h
          refine wp_seg (C := gC125) (pc1 := 62) (Lo1 := [some (.ref 0), some (.int l1), some (.int s0), some (.int ((l1 - (1 : Int32)) - s0))]) (st1' := [.int l1, .int (1 : Int32), .ref 37]) (w1 := (wv x I J)) rfl 4 rfl ?_
          refine cv_I (mj := 81) (a := 37) (as := [.int (1 : Int32), .int l1]) (r := []) rfl rfl rfl ⟨rfl, by decide, Nat.le_of_ble_eq_true rfl, Nat.le_of_ble_eq_true rfl⟩ rfl (wcI_mono k (fun r1 I1 J1 k => ?_))
          refine wi_eq (tgt := 80) rfl rfl (fun h => ?_) (fun h => ?_)
          · have k := k.1 h
            refine wp_seg (C := gC125) (pc1 := 81) (Lo1 := [some (.ref 0), some (.int l1), some (.int s0), some (.int ((l1 - (1 : Int32)) - s0))]) (st1' := [.int (-1 : Int32)]) (w1 := (wv x I1 J1)) rfl 1 rfl ?_
            exact we_i rfl rfl k
          · have k := k.2 h
            refine wp_seg (C := gC125) (pc1 := 74) (Lo1 := [some (.ref 0), some (.int l1), some (.int s0), some (.int ((l1 - (1 : Int32)) - s0))]) (st1' := [.int l1, .int s0, .ref 37]) (w1 := (wv x I1 J1)) rfl 4 rfl ?_
            refine cv_I (mj := 92) (a := 37) (as := [.int s0, .int l1]) (r := []) rfl rfl rfl ⟨rfl, by decide, Nat.le_of_ble_eq_true rfl, Nat.le_of_ble_eq_true rfl⟩ rfl (wcI_mono k (fun r2 I2 J2 k => ?_))
            refine wp_seg (C := gC125) (pc1 := 81) (Lo1 := [some (.ref 0), some (.int l1), some (.int s0), some (.int ((l1 - (1 : Int32)) - s0))]) (st1' := [.int r2]) (w1 := (wv x I2 J2)) rfl 1 rfl ?_
            exact we_i rfl rfl k
set_option maxRecDepth 20000 in
theorem v126_0_0 {S : Nat × (Nat → Int32)} {d : Nat} {x : mX} {I : rI0} {J : rJ0} {p1 : Int32} {Q : Int32 → rI0 → rJ0 → Prop} (k : ((p1.toInt < 0 ∨ 2 < p1.toInt → Q (-1 : Int32) I J) ∧ (p1.toInt = 0 → Q (I 37 9) I J) ∧ (p1.toInt = 1 → Q (I 37 10) I J) ∧ (p1.toInt = 2 → Q (I 37 11) I J) ∧ True)) : wp S d 126 0 [some (.ref 0), some (.int p1)] [] (wv x I J) (rI x Q) := by
  refine wp_seg (C := gC126) (pc1 := 1) (Lo1 := [some (.ref 0), some (.int p1)]) (st1' := [.int p1]) (w1 := (wv x I J)) rfl 1 rfl ?_
  refine wt_tab (nn := 3) rfl ⟨rfl, rfl⟩ (fun h => ?_) (fun i hi hx => ?_)
  · have k := k.1 h
    show wp S d 126 52 [some (.ref 0), some (.int p1)] [] (wv x I J) (rI x Q)
    refine wp_seg (C := gC126) (pc1 := 53) (Lo1 := [some (.ref 0), some (.int p1)]) (st1' := [.int (-1 : Int32)]) (w1 := (wv x I J)) rfl 1 rfl ?_
    exact we_i rfl rfl k
  · have k := k.2
    rcases (by omega : i = 0 ∨ i = 1 ∨ i = 2) with rfl | rfl | rfl
    · have k := k.1 (by omega)
      show wp S d 126 28 [some (.ref 0), some (.int p1)] [] (wv x I J) (rI x Q)
      refine wp_seg (C := gC126) (pc1 := 35) (Lo1 := [some (.ref 0), some (.int p1)]) (st1' := [.int (I 37 9)]) (w1 := (wv x I J)) rfl 3 rfl ?_
      exact we_i rfl rfl k
    · have k := k.2.1 (by omega)
      show wp S d 126 36 [some (.ref 0), some (.int p1)] [] (wv x I J) (rI x Q)
      refine wp_seg (C := gC126) (pc1 := 43) (Lo1 := [some (.ref 0), some (.int p1)]) (st1' := [.int (I 37 10)]) (w1 := (wv x I J)) rfl 3 rfl ?_
      exact we_i rfl rfl k
    · have k := k.2.2.1 (by omega)
      show wp S d 126 44 [some (.ref 0), some (.int p1)] [] (wv x I J) (rI x Q)
      refine wp_seg (C := gC126) (pc1 := 51) (Lo1 := [some (.ref 0), some (.int p1)]) (st1' := [.int (I 37 11)]) (w1 := (wv x I J)) rfl 3 rfl ?_
      exact we_i rfl rfl k
set_option maxRecDepth 20000 in
theorem v127_0_0 {S : Nat × (Nat → Int32)} {d : Nat} {x : mX} {I : rI0} {J : rJ0} {p1 : Int32} {Q : Int32 → rI0 → rJ0 → Prop} (k : (wcI S d 67 [.ref 1] x I J (fun r1 I1 J1 => ((p1 < (0 : Int32) → Q (-1 : Int32) I1 J1) ∧ (¬ p1 < (0 : Int32) → (((60 : Int32) < p1 → Q (-1 : Int32) I1 J1) ∧ (¬ (60 : Int32) < p1 → (wcI S d 140 [.ref 0] x I1 J1 (fun r2 I2 J2 => ((r2 = (0 : Int32) → (wcI S d 23 [.ref 4] x I2 J2 (fun r3 I3 J3 => ((r1 = r3 → (wcI S d 93 [.ref 37, .int r1] x I3 J3 (fun r4 I4 J4 => ((r4 = (0 : Int32) → Q (-1 : Int32) I4 J4) ∧ (¬ r4 = (0 : Int32) → (wcI S d 94 [.ref 37, .int p1] x I4 J4 (fun r5 I5 J5 => Q r5 I5 J5))))))) ∧ (¬ r1 = r3 → Q (-1 : Int32) I3 J3))))) ∧ (¬ r2 = (0 : Int32) → Q (-1 : Int32) I2 J2))))))))))) : wp S (d + 1) 127 0 [some (.ref 0), some (.int p1), none] [] (wv x I J) (rI x Q) := by
  refine wp_seg (C := gC127) (pc1 := 4) (Lo1 := [some (.ref 0), some (.int p1), none]) (st1' := [.ref 1]) (w1 := (wv x I J)) rfl 2 rfl ?_
  refine cv_I (mj := 67) (a := 1) (as := []) (r := []) rfl rfl rfl ⟨rfl, by decide, Nat.le_of_ble_eq_true rfl, Nat.le_of_ble_eq_true rfl⟩ rfl (wcI_mono k (fun r1 I1 J1 k => ?_))
  refine wp_seg (C := gC127) (pc1 := 9) (Lo1 := [some (.ref 0), some (.int p1), some (.int r1)]) (st1' := [.int p1]) (w1 := (wv x I1 J1)) rfl 2 rfl ?_
  refine wi_lt (tgt := 39) rfl rfl (fun h => ?_) (fun h => ?_)
  · have k := k.1 h
    refine wp_seg (C := gC127) (pc1 := 40) (Lo1 := [some (.ref 0), some (.int p1), some (.int r1)]) (st1' := [.int (-1 : Int32)]) (w1 := (wv x I1 J1)) rfl 1 rfl ?_
    exact we_i rfl rfl k
  · have k := k.2 h
    refine wp_seg (C := gC127) (pc1 := 15) (Lo1 := [some (.ref 0), some (.int p1), some (.int r1)]) (st1' := [.int (60 : Int32), .int p1]) (w1 := (wv x I1 J1)) rfl 2 rfl ?_
    refine wj_gt (tgt := 39) rfl rfl (fun h => ?_) (fun h => ?_)
    · have k := k.1 h
      refine wp_seg (C := gC127) (pc1 := 40) (Lo1 := [some (.ref 0), some (.int p1), some (.int r1)]) (st1' := [.int (-1 : Int32)]) (w1 := (wv x I1 J1)) rfl 1 rfl ?_
      exact we_i rfl rfl k
    · have k := k.2 h
      refine wp_seg (C := gC127) (pc1 := 19) (Lo1 := [some (.ref 0), some (.int p1), some (.int r1)]) (st1' := [.ref 0]) (w1 := (wv x I1 J1)) rfl 1 rfl ?_
      refine cv_I (mj := 140) (a := 0) (as := []) (r := []) rfl rfl rfl ⟨rfl, by decide, Nat.le_of_ble_eq_true rfl, Nat.le_of_ble_eq_true rfl⟩ rfl (wcI_mono k (fun r2 I2 J2 k => ?_))
      refine wi_ne (tgt := 39) rfl rfl (fun h => ?_) (fun h => ?_)
      · have k := k.1 h
        refine wp_seg (C := gC127) (pc1 := 33) (Lo1 := [some (.ref 0), some (.int p1), some (.int r1)]) (st1' := [.ref 4, .int r1]) (w1 := (wv x I2 J2)) rfl 4 rfl ?_
        refine cv_I (mj := 23) (a := 4) (as := []) (r := [.int r1]) rfl rfl rfl ⟨rfl, by decide, Nat.le_of_ble_eq_true rfl, Nat.le_of_ble_eq_true rfl⟩ rfl (wcI_mono k (fun r3 I3 J3 k => ?_))
        refine wj_eq (tgt := 41) rfl rfl (fun h => ?_) (fun h => ?_)
        · have k := k.1 h
          refine wp_seg (C := gC127) (pc1 := 46) (Lo1 := [some (.ref 0), some (.int p1), some (.int r1)]) (st1' := [.int r1, .ref 37]) (w1 := (wv x I3 J3)) rfl 3 rfl ?_
          refine cv_I (mj := 93) (a := 37) (as := [.int r1]) (r := []) rfl rfl rfl ⟨rfl, by decide, Nat.le_of_ble_eq_true rfl, Nat.le_of_ble_eq_true rfl⟩ rfl (wcI_mono k (fun r4 I4 J4 k => ?_))
          refine wi_eq (tgt := 63) rfl rfl (fun h => ?_) (fun h => ?_)
          · have k := k.1 h
            refine wp_seg (C := gC127) (pc1 := 64) (Lo1 := [some (.ref 0), some (.int p1), some (.int r1)]) (st1' := [.int (-1 : Int32)]) (w1 := (wv x I4 J4)) rfl 1 rfl ?_
            exact we_i rfl rfl k
          · have k := k.2 h
            refine wp_seg (C := gC127) (pc1 := 57) (Lo1 := [some (.ref 0), some (.int p1), some (.int r1)]) (st1' := [.int p1, .ref 37]) (w1 := (wv x I4 J4)) rfl 3 rfl ?_
            refine cv_I (mj := 94) (a := 37) (as := [.int p1]) (r := []) rfl rfl rfl ⟨rfl, by decide, Nat.le_of_ble_eq_true rfl, Nat.le_of_ble_eq_true rfl⟩ rfl (wcI_mono k (fun r5 I5 J5 k => ?_))
            refine wp_seg (C := gC127) (pc1 := 64) (Lo1 := [some (.ref 0), some (.int p1), some (.int r1)]) (st1' := [.int r5]) (w1 := (wv x I5 J5)) rfl 1 rfl ?_
            exact we_i rfl rfl k
        · have k := k.2 h
          refine wp_seg (C := gC127) (pc1 := 40) (Lo1 := [some (.ref 0), some (.int p1), some (.int r1)]) (st1' := [.int (-1 : Int32)]) (w1 := (wv x I3 J3)) rfl 1 rfl ?_
          exact we_i rfl rfl k
      · have k := k.2 h
        refine wp_seg (C := gC127) (pc1 := 40) (Lo1 := [some (.ref 0), some (.int p1), some (.int r1)]) (st1' := [.int (-1 : Int32)]) (w1 := (wv x I2 J2)) rfl 1 rfl ?_
        exact we_i rfl rfl k
set_option maxRecDepth 20000 in
theorem v128_0_0 {S : Nat × (Nat → Int32)} {d : Nat} {x : mX} {I : rI0} {J : rJ0} {p1 : Int32} {Q : Int32 → rI0 → rJ0 → Prop} (k : ((p1 = (0 : Int32) → Q (I 37 12) I J) ∧ (¬ p1 = (0 : Int32) → ((p1 = (1 : Int32) → Q (I 37 13) I J) ∧ (¬ p1 = (1 : Int32) → Q (-1 : Int32) I J))))) : wp S d 128 0 [some (.ref 0), some (.int p1)] [] (wv x I J) (rI x Q) := by
  refine wp_seg (C := gC128) (pc1 := 1) (Lo1 := [some (.ref 0), some (.int p1)]) (st1' := [.int p1]) (w1 := (wv x I J)) rfl 1 rfl ?_
  refine wi_ne (tgt := 12) rfl rfl (fun h => ?_) (fun h => ?_)
  · have k := k.1 h
    refine wp_seg (C := gC128) (pc1 := 11) (Lo1 := [some (.ref 0), some (.int p1)]) (st1' := [.int (I 37 12)]) (w1 := (wv x I J)) rfl 3 rfl ?_
    exact we_i rfl rfl k
  · have k := k.2 h
    refine wp_seg (C := gC128) (pc1 := 14) (Lo1 := [some (.ref 0), some (.int p1)]) (st1' := [.int (1 : Int32), .int p1]) (w1 := (wv x I J)) rfl 2 rfl ?_
    refine wj_ne (tgt := 27) rfl rfl (fun h => ?_) (fun h => ?_)
    · have k := k.1 h
      refine wp_seg (C := gC128) (pc1 := 28) (Lo1 := [some (.ref 0), some (.int p1)]) (st1' := [.int (I 37 13)]) (w1 := (wv x I J)) rfl 4 rfl ?_
      exact we_i rfl rfl k
    · have k := k.2 h
      refine wp_seg (C := gC128) (pc1 := 28) (Lo1 := [some (.ref 0), some (.int p1)]) (st1' := [.int (-1 : Int32)]) (w1 := (wv x I J)) rfl 1 rfl ?_
      exact we_i rfl rfl k
set_option maxRecDepth 20000 in
theorem v129_0_0 {S : Nat × (Nat → Int32)} {d : Nat} {x : mX} {I : rI0} {J : rJ0} {p1 : Int32} {p2 : Int32} {Q : Int32 → rI0 → rJ0 → Prop} (k : (wcI S d 24 [.ref 4, .int p1] x I J (fun r1 I1 J1 => ((r1 = (0 : Int32) → Q (-1 : Int32) I1 J1) ∧ (¬ r1 = (0 : Int32) → (wcI S d 24 [.ref 4, .int p2] x I1 J1 (fun r2 I2 J2 => ((r2 = (0 : Int32) → Q (-1 : Int32) I2 J2) ∧ (¬ r2 = (0 : Int32) → (wcI S d 96 [.ref 37, .long ((1 : Int64) <<< (p1.toInt64 &&& 63)), .long ((1 : Int64) <<< (p2.toInt64 &&& 63))] x I2 J2 (fun r3 I3 J3 => Q r3 I3 J3))))))))))) : wp S (d + 1) 129 0 [some (.ref 0), some (.int p1), some (.int p2)] [] (wv x I J) (rI x Q) := by
  refine wp_seg (C := gC129) (pc1 := 8) (Lo1 := [some (.ref 0), some (.int p1), some (.int p2)]) (st1' := [.int p1, .ref 4]) (w1 := (wv x I J)) rfl 4 rfl ?_
  refine cv_I (mj := 24) (a := 4) (as := [.int p1]) (r := []) rfl rfl rfl ⟨rfl, by decide, Nat.le_of_ble_eq_true rfl, Nat.le_of_ble_eq_true rfl⟩ rfl (wcI_mono k (fun r1 I1 J1 k => ?_))
  refine wi_eq (tgt := 28) rfl rfl (fun h => ?_) (fun h => ?_)
  · have k := k.1 h
    refine wp_seg (C := gC129) (pc1 := 29) (Lo1 := [some (.ref 0), some (.int p1), some (.int p2)]) (st1' := [.int (-1 : Int32)]) (w1 := (wv x I1 J1)) rfl 1 rfl ?_
    exact we_i rfl rfl k
  · have k := k.2 h
    refine wp_seg (C := gC129) (pc1 := 22) (Lo1 := [some (.ref 0), some (.int p1), some (.int p2)]) (st1' := [.int p2, .ref 4]) (w1 := (wv x I1 J1)) rfl 4 rfl ?_
    refine cv_I (mj := 24) (a := 4) (as := [.int p2]) (r := []) rfl rfl rfl ⟨rfl, by decide, Nat.le_of_ble_eq_true rfl, Nat.le_of_ble_eq_true rfl⟩ rfl (wcI_mono k (fun r2 I2 J2 k => ?_))
    refine wi_ne (tgt := 30) rfl rfl (fun h => ?_) (fun h => ?_)
    · have k := k.1 h
      refine wp_seg (C := gC129) (pc1 := 29) (Lo1 := [some (.ref 0), some (.int p1), some (.int p2)]) (st1' := [.int (-1 : Int32)]) (w1 := (wv x I2 J2)) rfl 1 rfl ?_
      exact we_i rfl rfl k
    · have k := k.2 h
      refine wp_seg (C := gC129) (pc1 := 40) (Lo1 := [some (.ref 0), some (.int p1), some (.int p2)]) (st1' := [.long ((1 : Int64) <<< (p2.toInt64 &&& 63)), .long ((1 : Int64) <<< (p1.toInt64 &&& 63)), .ref 37]) (w1 := (wv x I2 J2)) rfl 8 rfl ?_
      refine cv_I (mj := 96) (a := 37) (as := [.long ((1 : Int64) <<< (p1.toInt64 &&& 63)), .long ((1 : Int64) <<< (p2.toInt64 &&& 63))]) (r := []) rfl rfl rfl ⟨rfl, by decide, Nat.le_of_ble_eq_true rfl, Nat.le_of_ble_eq_true rfl⟩ rfl (wcI_mono k (fun r3 I3 J3 k => ?_))
      exact we_i rfl rfl k
set_option maxRecDepth 20000 in
theorem v130_0_0 {S : Nat × (Nat → Int32)} {d : Nat} {x : mX} {I : rI0} {J : rJ0} {Q : Int32 → rI0 → rJ0 → Prop} (k : (wcI S d 140 [.ref 0] x I J (fun r1 I1 J1 => ((r1 = (0 : Int32) → (wcI S d 10 [.ref 31] x I1 J1 (fun r2 I2 J2 => ((r2 < (I2 4 2) → (wcI S d 97 [.ref 37, .int ((I2 4 2) - (1 : Int32))] x I2 J2 (fun r3 I3 J3 => ((r3 = (-1 : Int32) → Q (-1 : Int32) I3 J3) ∧ (¬ r3 = (-1 : Int32) → (¬ (64 : Int32) = 0 ∧ (¬ (64 : Int32) = 0 ∧ Q (((r3 / (64 : Int32)) * (100 : Int32)) + (r3 - r3 / (64 : Int32) * (64 : Int32))) I3 J3))))))) ∧ (¬ r2 < (I2 4 2) → Q (-1 : Int32) I2 J2))))) ∧ (¬ r1 = (0 : Int32) → Q (-1 : Int32) I1 J1))))) : wp S (d + 1) 130 0 [some (.ref 0), none] [] (wv x I J) (rI x Q) := by
  refine wp_seg (C := gC130) (pc1 := 1) (Lo1 := [some (.ref 0), none]) (st1' := [.ref 0]) (w1 := (wv x I J)) rfl 1 rfl ?_
  refine cv_I (mj := 140) (a := 0) (as := []) (r := []) rfl rfl rfl ⟨rfl, by decide, Nat.le_of_ble_eq_true rfl, Nat.le_of_ble_eq_true rfl⟩ rfl (wcI_mono k (fun r1 I1 J1 k => ?_))
  refine wi_ne (tgt := 27) rfl rfl (fun h => ?_) (fun h => ?_)
  · have k := k.1 h
    refine wp_seg (C := gC130) (pc1 := 11) (Lo1 := [some (.ref 0), none]) (st1' := [.ref 31]) (w1 := (wv x I1 J1)) rfl 2 rfl ?_
    refine cv_I (mj := 10) (a := 31) (as := []) (r := []) rfl rfl rfl ⟨rfl, by decide, Nat.le_of_ble_eq_true rfl, Nat.le_of_ble_eq_true rfl⟩ rfl (wcI_mono k (fun r2 I2 J2 k => ?_))
    refine wp_seg (C := gC130) (pc1 := 24) (Lo1 := [some (.ref 0), none]) (st1' := [.int (I2 4 2), .int r2]) (w1 := (wv x I2 J2)) rfl 4 rfl ?_
    refine wj_lt (tgt := 29) rfl rfl (fun h => ?_) (fun h => ?_)
    · have k := k.1 h
      refine wp_seg (C := gC130) (pc1 := 45) (Lo1 := [some (.ref 0), none]) (st1' := [.int ((I2 4 2) - (1 : Int32)), .ref 37]) (w1 := (wv x I2 J2)) rfl 8 rfl ?_
      refine cv_I (mj := 97) (a := 37) (as := [.int ((I2 4 2) - (1 : Int32))]) (r := []) rfl rfl rfl ⟨rfl, by decide, Nat.le_of_ble_eq_true rfl, Nat.le_of_ble_eq_true rfl⟩ rfl (wcI_mono k (fun r3 I3 J3 k => ?_))
      refine wp_seg (C := gC130) (pc1 := 51) (Lo1 := [some (.ref 0), some (.int r3)]) (st1' := [.int (-1 : Int32), .int r3]) (w1 := (wv x I3 J3)) rfl 3 rfl ?_
      refine wj_ne (tgt := 58) rfl rfl (fun h => ?_) (fun h => ?_)
      · have k := k.1 h
        refine wp_seg (C := gC130) (pc1 := 70) (Lo1 := [some (.ref 0), some (.int r3)]) (st1' := [.int (-1 : Int32)]) (w1 := (wv x I3 J3)) rfl 2 rfl ?_
        exact we_i rfl rfl k
      · have k := k.2 h
        refine wp_seg (C := gC130) (pc1 := 61) (Lo1 := [some (.ref 0), some (.int r3)]) (st1' := [.int (64 : Int32), .int r3]) (w1 := (wv x I3 J3)) rfl 2 rfl ?_
        refine wd_i rfl k.1 ?_
        have k := k.2
        refine wp_seg (C := gC130) (pc1 := 68) (Lo1 := [some (.ref 0), some (.int r3)]) (st1' := [.int (64 : Int32), .int r3, .int ((r3 / (64 : Int32)) * (100 : Int32))]) (w1 := (wv x I3 J3)) rfl 4 rfl ?_
        refine wd_r rfl k.1 ?_
        have k := k.2
        refine wp_seg (C := gC130) (pc1 := 70) (Lo1 := [some (.ref 0), some (.int r3)]) (st1' := [.int (((r3 / (64 : Int32)) * (100 : Int32)) + (r3 - r3 / (64 : Int32) * (64 : Int32)))]) (w1 := (wv x I3 J3)) rfl 1 rfl ?_
        exact we_i rfl rfl k
    · have k := k.2 h
      refine wp_seg (C := gC130) (pc1 := 28) (Lo1 := [some (.ref 0), none]) (st1' := [.int (-1 : Int32)]) (w1 := (wv x I2 J2)) rfl 1 rfl ?_
      exact we_i rfl rfl k
  · have k := k.2 h
    refine wp_seg (C := gC130) (pc1 := 28) (Lo1 := [some (.ref 0), none]) (st1' := [.int (-1 : Int32)]) (w1 := (wv x I1 J1)) rfl 1 rfl ?_
    exact we_i rfl rfl k
set_option maxRecDepth 20000 in
theorem v131_0_0 {S : Nat × (Nat → Int32)} {d : Nat} {x : mX} {I : rI0} {J : rJ0} {p1 : Int32} {p2 : Int32} {Q : Int32 → rI0 → rJ0 → Prop} (k : (wcI S d 24 [.ref 4, .int p1] x I J (fun r1 I1 J1 => ((r1 = (0 : Int32) → Q (0 : Int32) I1 J1) ∧ (¬ r1 = (0 : Int32) → (wcI S d 24 [.ref 4, .int p2] x I1 J1 (fun r2 I2 J2 => ((r2 = (0 : Int32) → Q (0 : Int32) I2 J2) ∧ (¬ r2 = (0 : Int32) → ((p1 = p2 → Q (0 : Int32) I2 J2) ∧ (¬ p1 = p2 → (wcV S d 30 [.ref 4, .int p1, .int p2] x I2 J2 (fun I3 J3 => (wcV S d 6 [.ref 31] x I3 J3 (fun I4 J4 => Q (1 : Int32) I4 J4))))))))))))))) : wp S (d + 1) 131 0 [some (.ref 0), some (.int p1), some (.int p2)] [] (wv x I J) (rI x Q) := by
  refine wp_seg (C := gC131) (pc1 := 8) (Lo1 := [some (.ref 0), some (.int p1), some (.int p2)]) (st1' := [.int p1, .ref 4]) (w1 := (wv x I J)) rfl 4 rfl ?_
  refine cv_I (mj := 24) (a := 4) (as := [.int p1]) (r := []) rfl rfl rfl ⟨rfl, by decide, Nat.le_of_ble_eq_true rfl, Nat.le_of_ble_eq_true rfl⟩ rfl (wcI_mono k (fun r1 I1 J1 k => ?_))
  refine wi_eq (tgt := 33) rfl rfl (fun h => ?_) (fun h => ?_)
  · have k := k.1 h
    refine wp_seg (C := gC131) (pc1 := 34) (Lo1 := [some (.ref 0), some (.int p1), some (.int p2)]) (st1' := [.int (0 : Int32)]) (w1 := (wv x I1 J1)) rfl 1 rfl ?_
    exact we_z rfl rfl (Or.inl rfl) k
  · have k := k.2 h
    refine wp_seg (C := gC131) (pc1 := 22) (Lo1 := [some (.ref 0), some (.int p1), some (.int p2)]) (st1' := [.int p2, .ref 4]) (w1 := (wv x I1 J1)) rfl 4 rfl ?_
    refine cv_I (mj := 24) (a := 4) (as := [.int p2]) (r := []) rfl rfl rfl ⟨rfl, by decide, Nat.le_of_ble_eq_true rfl, Nat.le_of_ble_eq_true rfl⟩ rfl (wcI_mono k (fun r2 I2 J2 k => ?_))
    refine wi_eq (tgt := 33) rfl rfl (fun h => ?_) (fun h => ?_)
    · have k := k.1 h
      refine wp_seg (C := gC131) (pc1 := 34) (Lo1 := [some (.ref 0), some (.int p1), some (.int p2)]) (st1' := [.int (0 : Int32)]) (w1 := (wv x I2 J2)) rfl 1 rfl ?_
      exact we_z rfl rfl (Or.inl rfl) k
    · have k := k.2 h
      refine wp_seg (C := gC131) (pc1 := 30) (Lo1 := [some (.ref 0), some (.int p1), some (.int p2)]) (st1' := [.int p2, .int p1]) (w1 := (wv x I2 J2)) rfl 2 rfl ?_
      refine wj_ne (tgt := 35) rfl rfl (fun h => ?_) (fun h => ?_)
      · have k := k.1 h
        refine wp_seg (C := gC131) (pc1 := 34) (Lo1 := [some (.ref 0), some (.int p1), some (.int p2)]) (st1' := [.int (0 : Int32)]) (w1 := (wv x I2 J2)) rfl 1 rfl ?_
        exact we_z rfl rfl (Or.inl rfl) k
      · have k := k.2 h
        refine wp_seg (C := gC131) (pc1 := 44) (Lo1 := [some (.ref 0), some (.int p1), some (.int p2)]) (st1' := [.int p2, .int p1, .ref 4]) (w1 := (wv x I2 J2)) rfl 5 rfl ?_
        refine cv_V (mj := 30) (a := 4) (as := [.int p1, .int p2]) (r := []) rfl rfl rfl ⟨rfl, by decide, Nat.le_of_ble_eq_true rfl, Nat.le_of_ble_eq_true rfl⟩ rfl (wcV_mono k (fun I3 J3 k => ?_))
        refine wp_seg (C := gC131) (pc1 := 51) (Lo1 := [some (.ref 0), some (.int p1), some (.int p2)]) (st1' := [.ref 31]) (w1 := (wv x I3 J3)) rfl 2 rfl ?_
        refine cv_V (mj := 6) (a := 31) (as := []) (r := []) rfl rfl rfl ⟨rfl, by decide, Nat.le_of_ble_eq_true rfl, Nat.le_of_ble_eq_true rfl⟩ rfl (wcV_mono k (fun I4 J4 k => ?_))
        refine wp_seg (C := gC131) (pc1 := 55) (Lo1 := [some (.ref 0), some (.int p1), some (.int p2)]) (st1' := [.int (1 : Int32)]) (w1 := (wv x I4 J4)) rfl 1 rfl ?_
        exact we_z rfl rfl (Or.inr rfl) k
end
